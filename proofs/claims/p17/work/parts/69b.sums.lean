theorem su_ex {o : Int × pm_M} {C : Int → pm_M → Prop} (h : C o.1 o.2) : ∃ y V1, o = (y, V1) ∧ C y V1 := ⟨o.1, o.2, rfl, h⟩
theorem su_ite {P : Prop} [Decidable P] : ((if P then (1 : Int) else 0) = 0) ↔ ¬ P := by
  by_cases h : P
  · rw [if_pos h]; exact ⟨fun q => absurd q (by decide), fun q => absurd h q⟩
  · rw [if_neg h]; exact ⟨fun _ => h, fun _ => rfl⟩
theorem c_code (rc : Nat) (V : pm_M) : ∃ y, F_X3_codeOfToken rc V = (y, V) ∧ (y = -1 ↔ ¬ su_at V) := by
  rw [F_X3_codeOfToken_eq]
  simp only [pf_let, pf_call, c_isNumber, c_isWord, su_ite]
  unfold su_at
  by_cases h0 : V 3 1 = 2 ∧ 0 ≤ V 3 3 ∧ V 3 3 ≤ 9999
  · rw [if_neg (fun q => q h0)]
    exact ⟨_, rfl, fun e => by omega, fun q => absurd (Or.inl h0) q⟩
  · rw [if_pos h0]
    by_cases h1 : V 3 1 = 1 ∧ V 3 3 = 499967947364
    · rw [if_neg (fun q => q h1)]
      exact ⟨_, rfl, fun e => absurd e (by decide), fun q => absurd (Or.inr ⟨h1.1, by omega⟩) q⟩
    · rw [if_pos h1]
      by_cases h2 : V 3 1 = 1 ∧ V 3 3 = 31084793213183332
      · rw [if_neg (fun q => q h2)]
        exact ⟨_, rfl, fun e => absurd e (by decide), fun q => absurd (Or.inr ⟨h2.1, by omega⟩) q⟩
      · rw [if_pos h2]
        by_cases h3 : V 3 1 = 1 ∧ V 3 3 = 508675318629
        · rw [if_neg (fun q => q h3)]
          exact ⟨_, rfl, fun e => absurd e (by decide), fun q => absurd (Or.inr ⟨h3.1, by omega⟩) q⟩
        · rw [if_pos h3]
          by_cases h4 : V 3 1 = 1 ∧ V 3 3 = 1717658469
          · rw [if_neg (fun q => q h4)]
            exact ⟨_, rfl, fun e => absurd e (by decide), fun q => absurd (Or.inr ⟨h4.1, by omega⟩) q⟩
          · rw [if_pos h4]
            by_cases h5 : V 3 1 = 1 ∧ V 3 3 = 474315584357
            · rw [if_neg (fun q => q h5)]
              exact ⟨_, rfl, fun e => absurd e (by decide), fun q => absurd (Or.inr ⟨h5.1, by omega⟩) q⟩
            · rw [if_pos h5]
              by_cases h6 : V 3 1 = 1 ∧ V 3 3 = 1684107883
              · rw [if_neg (fun q => q h6)]
                exact ⟨_, rfl, fun e => absurd e (by decide), fun q => absurd (Or.inr ⟨h6.1, by omega⟩) q⟩
              · rw [if_pos h6]
                by_cases h7 : V 3 1 = 1 ∧ V 3 3 = 1818326117
                · rw [if_neg (fun q => q h7)]
                  exact ⟨_, rfl, fun e => absurd e (by decide), fun q => absurd (Or.inr ⟨h7.1, by omega⟩) q⟩
                · rw [if_pos h7]
                  refine ⟨_, rfl, fun _ => ?_, fun _ => rfl⟩
                  rintro (q | ⟨q, q1⟩)
                  · exact h0 q
                  · rcases q1 with q1 | q1 | q1 | q1 | q1 | q1 | q1
                    · exact h1 ⟨q, q1⟩
                    · exact h2 ⟨q, q1⟩
                    · exact h3 ⟨q, q1⟩
                    · exact h4 ⟨q, q1⟩
                    · exact h5 ⟨q, q1⟩
                    · exact h6 ⟨q, q1⟩
                    · exact h7 ⟨q, q1⟩
theorem c_emit (rc : Nat) (a : Int) (V : pm_M) : ∃ V1, F_X2_emit rc a V = (0, V1) ∧ (∀ k, k ≠ rc → k ≠ rc + 4 → V1 k = V k) ∧ V1 rc 0 = V rc 0 := by
  rw [F_X2_emit_eq]
  simp only [pf_let]
  by_cases h : 500 ≤ V rc 5
  · rw [if_pos h]
    exact ⟨_, rfl, fun _ _ _ => rfl, rfl⟩
  · rw [if_neg h]
    exact ⟨_, rfl, fun k a b => by rw [pm_up_f a, pm_up_f b], by rw [pm_up_i (by decide), pm_up_f (by omega)]⟩
/-- what a reader of the class leaves as it was -/
def su_f (rc : Nat) (V V1 : pm_M) : Prop := (∀ k, k ≠ 3 → k ≠ rc → k ≠ rc + 4 → V1 k = V k) ∧ V1 rc 0 = V rc 0
theorem su_f.rf {rc : Nat} {V : pm_M} : su_f rc V V := ⟨fun _ _ _ _ => rfl, rfl⟩
theorem su_f.tr {rc : Nat} {V V1 V2 : pm_M} (h : su_f rc V V1) (h1 : su_f rc V1 V2) : su_f rc V V2 := ⟨fun k a b c => (h1.1 k a b c).trans (h.1 k a b c), h1.2.trans h.2⟩
theorem su_f.st {rc : Nat} {V V1 : pm_M} (hr : 4 ≤ rc) (h : ∀ k, k ≠ 3 → V1 k = V k) : su_f rc V V1 := ⟨fun k a _ _ => h k a, by rw [h rc (by omega)]⟩
theorem su_f.em {rc : Nat} {V V1 : pm_M} (h : ∀ k, k ≠ rc → k ≠ rc + 4 → V1 k = V k) (h0 : V1 rc 0 = V rc 0) : su_f rc V V1 := ⟨fun k _ b c => h k b c, h0⟩
/-- a reader of the class goes the automaton's way -/
def su_fn (rc : Nat) (E : pm_M → Prop) (d : Nat) (f : pm_M → Int × pm_M) : Prop := ∀ V x, su_R V x.2 → su_R x.1 x.2 → ∃ y V1, f V = (y, V1) ∧ su_f rc V V1 ∧ ((y = 0 ∧ ∃ xf, su_R V1 xf.2 ∧ su_R xf.1 xf.2 ∧ su_fail true d x xf) ∨ (y = 1 ∧ ∃ x1, su_R V1 x1.2 ∧ su_R x1.1 x1.2 ∧ E x1.1 ∧ V 3 2 + 1 ≤ V1 3 2 ∧ su_to true d x false d x1))
theorem su_atn {V : pm_M} (h : su_at V) : V 3 1 ≠ 0 := by
  rcases h with ⟨h, -⟩ | ⟨h, -⟩ <;> omega
theorem su_gn {c : Int} {V : pm_M} (h : su_g c V) : V 3 1 ≠ 0 := by
  have := h.1
  omega
/-- an operand of the class's: a token -/
theorem su_tok {rc : Nat} (hr : 4 ≤ rc) {V : pm_M} {x : su_X} {d : Nat} {y : Int} (h : su_R V x.2) (hx : su_R x.1 x.2) (ha : su_at V) : ∃ V1 V2, F_X2_emit rc y V = (0, V1) ∧ F_X9_step V1 = (0, V2) ∧ su_f rc V V2 ∧ ∃ x1, su_R V2 x1.2 ∧ su_R x1.1 x1.2 ∧ V 3 2 + 1 ≤ V2 3 2 ∧ su_to true d x false d x1 := by
  obtain ⟨V1, e1, f1, z1⟩ := c_emit rc y V
  have h1 : su_R V1 x.2 := h.up (f1 1 (by omega) (by omega)) (f1 2 (by omega) (by omega)) (f1 3 (by omega) (by omega))
  obtain ⟨V2, e2, h2, f2, p2⟩ := su_st_c h1
  refine ⟨V1, V2, e1, e2, (su_f.em f1 z1).tr (su_f.st hr f2), su_st x, h2, su_st_x hx, ?_, su_to_at (su_at_one h hx ha)⟩
  have l := su_len h (su_atn ha)
  rw [f1 3 (by omega) (by omega)] at p2
  omega
theorem su_facZ {rc : Nat} (hr : 4 ≤ rc) : su_fn rc (fun _ => True) 8 (F_X3_readFactorZ rc) := by
  intro V x h hx
  rw [F_X3_readFactorZ_eq]
  simp only [pf_call]
  obtain ⟨y, e, i⟩ := c_code rc V
  rw [e]
  simp only []
  by_cases q : y = -1
  · rw [if_pos q]
    exact ⟨0, V, rfl, su_f.rf, Or.inl ⟨rfl, x, h, hx, su_fail_E (fun g => i.mp q (su_at_one hx h g)) (fun g => absurd g.2 (by decide))⟩⟩
  · rw [if_neg q]
    have ha : su_at V := Classical.byContradiction fun g => q (i.mpr g)
    obtain ⟨V1, V2, e1, e2, f, x1, a1, a2, a3, a4⟩ := su_tok (y := y) (d := 8) hr h hx ha
    rw [e1]
    simp only []
    rw [e2]
    exact ⟨1, V2, rfl, f, Or.inr ⟨rfl, x1, a1, a2, trivial, a3, a4⟩⟩
theorem su_fac {rc d : Nat} (hr : 4 ≤ rc) (hd : d < 8) {s : pm_M → Int × pm_M} (hs : su_fn rc (fun V => ¬ (su_g 42 V ∨ su_g 43 V ∨ su_g 45 V)) (d + 1) s) : su_fn rc (fun _ => True) d (F_X3_readFactor rc s) := by
  intro V x h hx
  rw [F_X3_readFactor_eq]
  simp only [pf_call, pf_let, c_isSign, su_ite]
  obtain ⟨y, e, i⟩ := c_code rc V
  rw [e]
  simp only []
  by_cases q : y = -1
  · rw [if_pos q]
    have hna : ¬ su_at V := i.mp q
    by_cases g : V 3 1 = 3 ∧ V 3 3 = 40
    · rw [if_pos (fun q => q g)]
      have gx : su_g 40 x.1 := su_g_one h hx g
      obtain ⟨V1, e1, h1, f1, p1⟩ := su_st_c h
      rw [e1]
      simp only []
      obtain ⟨y2, V2, e2, f2, c2⟩ := hs V1 (su_st x) h1 (su_st_x hx)
      rw [e2]
      simp only []
      have l := su_len h (su_gn g)
      have ff : su_f rc V V2 := (su_f.st hr f1).tr f2
      rcases c2 with ⟨c2, xf, d1, d2, c3⟩ | ⟨c2, x1, c3, c4, c5, c6, c7⟩
      · rw [if_pos c2]
        exact ⟨0, V2, rfl, ff, Or.inl ⟨rfl, xf, d1, d2, (su_to_op gx hd).fail c3⟩⟩
      · rw [if_neg (by omega)]
        have to1 := (su_to_op gx hd).tr c7
        by_cases g2 : V2 3 1 = 3 ∧ V2 3 3 = 41
        · rw [if_pos (fun q => q g2)]
          obtain ⟨V3, e3, h3, f3, p3⟩ := su_st_c c3
          rw [e3]
          have l3 := su_len c3 (su_gn g2)
          exact ⟨1, V3, rfl, ff.tr (su_f.st hr f3), Or.inr ⟨rfl, su_st x1, h3, su_st_x c4, trivial, by omega, to1.tr (su_to_cl (su_g_one c3 c4 g2))⟩⟩
        · rw [if_neg (fun q => q g2)]
          exact ⟨0, V2, rfl, ff, Or.inl ⟨rfl, x1, c3, c4, to1.fail (su_fail_A c5 (fun g3 => g2 (su_g_one c4 c3 g3)) (by omega))⟩⟩
    · rw [if_neg (fun q => q g)]
      exact ⟨0, V, rfl, su_f.rf, Or.inl ⟨rfl, x, h, hx, su_fail_E (fun g3 => hna (su_at_one hx h g3)) (fun g3 => g (su_g_one hx h g3.1))⟩⟩
  · rw [if_neg q]
    have ha : su_at V := Classical.byContradiction fun g => q (i.mpr g)
    obtain ⟨V1, V2, e1, e2, f, x1, a1, a2, a3, a4⟩ := su_tok (y := y) (d := d) hr h hx ha
    rw [e1]
    simp only []
    rw [e2]
    exact ⟨1, V2, rfl, f, Or.inr ⟨rfl, x1, a1, a2, trivial, a3, a4⟩⟩
theorem su_prod {rc d : Nat} (hr : 4 ≤ rc) {f : pm_M → Int × pm_M} (hf : su_fn rc (fun _ => True) d f) : su_fn rc (fun V => ¬ su_g 42 V) d (F_X3_readProduct rc f) := by
  intro V x h hx
  obtain ⟨y, V1, e, fr, c⟩ := hf V x h hx
  rw [F_X3_readProduct_eq]
  simp only [pf_call]
  rw [e]
  simp only []
  rcases c with ⟨c, c1⟩ | ⟨c, x1, c1, c2, -, c4, c5⟩
  · subst c
    rw [if_neg (fun q => q rfl)]
    exact ⟨0, V1, rfl, fr, Or.inl ⟨rfl, c1⟩⟩
  · subst c
    rw [if_pos (by decide)]
    refine su_ex (C := fun y V1 => su_f rc V V1 ∧ ((y = 0 ∧ ∃ xf, su_R V1 xf.2 ∧ su_R xf.1 xf.2 ∧ su_fail true d x xf) ∨ (y = 1 ∧ ∃ x1, su_R V1 x1.2 ∧ su_R x1.1 x1.2 ∧ ¬ su_g 42 x1.1 ∧ V 3 2 + 1 ≤ V1 3 2 ∧ su_to true d x false d x1))) ?_
    refine pf_val_ind2 (fun (q : Int × pm_M) => 0 ≤ q.1 ∧ q.1 ≤ 500 ∧ q.1 ≤ q.2 3 2 ∧ su_f rc V q.2 ∧ V 3 2 + 1 ≤ q.2 3 2 ∧ ∃ z, su_R q.2 z.2 ∧ su_R z.1 z.2 ∧ su_to true d x false d z) (fun (o : Int × pm_M) => su_f rc V o.2 ∧ ((o.1 = 0 ∧ ∃ xf, su_R o.2 xf.2 ∧ su_R xf.1 xf.2 ∧ su_fail true d x xf) ∨ (o.1 = 1 ∧ ∃ x1, su_R o.2 x1.2 ∧ su_R x1.1 x1.2 ∧ ¬ su_g 42 x1.1 ∧ V 3 2 + 1 ≤ o.2 3 2 ∧ su_to true d x false d x1))) (fun q => (500 - q.1).toNat) ?_ (0, V1) ⟨Int.le_refl _, (show (0 : Int) ≤ 500 by decide), c1.2.ln.2.2.2.2.1, fr, c4, x1, c1, c2, c5⟩
    rintro ⟨k, U⟩ ⟨k0, k1, k2, fU, pU, z, z1, z2, z3⟩
    dsimp only at k0 k1 k2 fU pU z1
    simp only [pf_let, c_isSign, su_ite]
    by_cases q : 500 ≤ k
    · rw [if_pos q]
      have u0 := su_end z1 (by omega)
      exact Or.inr ⟨_, rfl, fU, Or.inr ⟨rfl, z, z1, z2, fun g => su_gn (su_g_one z2 z1 g) u0, pU, z3⟩⟩
    · rw [if_neg q]
      by_cases g : U 3 1 = 3 ∧ U 3 3 = 42
      · rw [if_neg (fun q => q g)]
        obtain ⟨U1, e1, h1, f1, p1⟩ := su_st_c z1
        rw [e1]
        simp only []
        have l := su_len z1 (su_gn g)
        have to1 := z3.tr (su_to_bin (Or.inl (su_g_one z1 z2 g)))
        obtain ⟨y2, U2, e2, f2, c2⟩ := hf U1 (su_st z) h1 (su_st_x z2)
        rw [e2]
        simp only []
        have ff : su_f rc V U2 := (fU.tr (su_f.st hr f1)).tr f2
        rcases c2 with ⟨c2, xf, d1, d2, c3⟩ | ⟨c2, x2, c3, c4, -, c6, c7⟩
        · rw [if_neg (fun q => q c2)]
          exact Or.inr ⟨_, rfl, ff, Or.inl ⟨rfl, xf, d1, d2, to1.fail c3⟩⟩
        · rw [if_pos (by omega)]
          obtain ⟨U3, e3, f3, f4⟩ := c_emit rc 20042 U2
          rw [e3]
          have e33 := f3 3 (by omega) (by omega)
          refine Or.inl ⟨_, rfl, ⟨by show 0 ≤ k + 1; omega, by show k + 1 ≤ 500; omega, by show k + 1 ≤ U3 3 2; rw [e33]; omega, ff.tr (su_f.em f3 f4), by show V 3 2 + 1 ≤ U3 3 2; rw [e33]; omega, x2, c3.up (f3 1 (by omega) (by omega)) (f3 2 (by omega) (by omega)) e33, c4, to1.tr c7⟩, by show (500 - (k + 1)).toNat < (500 - k).toNat; omega⟩
      · rw [if_pos g]
        exact Or.inr ⟨_, rfl, fU, Or.inr ⟨rfl, z, z1, z2, fun g3 => g (su_g_one z2 z1 g3), pU, z3⟩⟩
