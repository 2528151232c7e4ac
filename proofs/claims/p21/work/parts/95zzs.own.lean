/-! OWN: both sides answer alike -/
theorem mB_own {V W : pm_M} (h : gq V W) (hc : ck V) (a1 a2 : Int) : ∃ y V1 W1, F_X11_own a1 a2 V = (y, V1) ∧ F_X12_own a1 a2 W = (y, W1) ∧ ck V1 := by
  have h5 := h.1.1.2.2.2.2.1
  have e1 := F_X11_own_eq a1 a2 V
  have e2 := F_X12_own_eq a1 a2 W
  by_cases cp : 0 ≤ a1 ∧ a1 < W 90 23
  · replace e1 := (e1.trans (pf_call_eq ((nf_isPerson a1).1 (by rw [h5]; exact cp)))).trans (if_neg (by decide))
    replace e2 := (e2.trans (pf_call_eq ((nf_isPersonR a1).1 cp))).trans (if_neg (by decide))
    obtain ⟨p, rfl⟩ : ∃ p : Nat, a1 = (p : Int) := ⟨a1.toNat, by omega⟩
    have hp := cp.2
    have p10 : p < 10 := by
      have := h.1.2.2.1.2.2.2.1
      omega
    have i0 : (4 * (p : Int)).toNat = 4 * p := by omega
    have i1 : ((4 * (p : Int)) + 1).toNat = 4 * p + 1 := by omega
    have i2 : ((4 * (p : Int)) + 2).toNat = 4 * p + 2 := by omega
    by_cases c2 : 0 ≤ a2 ∧ a2 ≤ 2
    · replace e1 := (e1.trans (if_neg (by omega))).trans (if_pos c2.2)
      replace e2 := (((((e2.trans (pf_call_eq ((nf_in a2 0 2).1 c2))).trans (if_pos (by decide))).trans (pf_let_eq rfl)).trans (pf_let_eq rfl)).trans (pf_let_eq rfl))
      by_cases c3 : a2 = 2
      · replace e1 := e1.trans (if_neg (fun q => q c3))
        replace e2 := ((e2.trans (if_neg (fun q => q c3))).trans (pf_let_eq rfl)).trans (pf_let_eq rfl)
        obtain ⟨C, hC, e2⟩ := pf_loop e2
        obtain ⟨y, V1, k1, k2, k3⟩ := mB_odds (d' := ((0 : Int), W)) (C := C) h hc hp (fun f l T c => by
          exact ⟨_, (((congrFun hC (f, l, T)).trans (pf_let_eq rfl)).trans (pf_let_eq rfl)).trans (if_pos (by omega))⟩) (fun f l T T1 z c m1 => by
          have q := (((congrFun hC (f, l, T)).trans (pf_let_eq rfl)).trans (pf_let_eq rfl)).trans (if_neg (by omega))
          replace q := ((((((((q.trans (pf_let_eq (y := pm_up T 100 (4 * p + 2) l) (by rw [i2]))).trans (pf_let_eq rfl)).trans (pf_let_eq rfl)).trans (pf_call_eq m1)).trans (pf_let_eq rfl)).trans (pf_let_eq rfl)).trans (pf_let_eq rfl)).trans (pf_let_eq rfl))
          refine ⟨fun s z2 T2 m2 => ?_, fun s y T2 m2 => ?_⟩
          · exact (((((((q.trans (if_pos s)).trans (pf_call_eq m2)).trans (pf_let_eq rfl)).trans (pf_let_eq rfl)).trans (pf_let_eq rfl)).trans (pf_let_eq rfl)).trans (pf_let_eq rfl))
          · replace q := ((((((q.trans (if_neg s)).trans (pf_call_eq m2)).trans (pf_let_eq rfl)).trans (pf_let_eq rfl)).trans (pf_let_eq rfl)).trans (pf_let_eq rfl))
            refine ⟨fun s2 => (q.trans (if_neg s2)).trans (pf_let_eq rfl), fun s2 z3 T3 m3 => ?_⟩
            exact (((((((q.trans (if_pos s2)).trans (pf_call_eq m3)).trans (pf_let_eq rfl)).trans (pf_let_eq rfl)).trans (pf_let_eq rfl)).trans (pf_let_eq rfl)).trans (pf_let_eq rfl)))
        rw [← e2] at k2
        exact ⟨y, V1, _, e1.trans (pf_call_eq k1), Prod.ext k2 rfl, k3⟩
      · replace e1 := e1.trans (if_pos c3)
        replace e2 := ((e2.trans (if_pos c3)).trans (pf_let_eq rfl)).trans (pf_let_eq rfl)
        obtain ⟨C, hC, e2⟩ := pf_loop e2
        obtain ⟨P, hP⟩ : ∃ P, W 100 (4 * p + 2) = P := ⟨_, rfl⟩
        have ho := oq.of (p := p) h
        rw [hP] at ho
        have h7 : V 7 p = P := (gq_data h hp).2.2.trans hP
        have hb := own_b ho p10
        have hs := (own_F ho p10 84 0 0 V _ _ (Or.inl rfl) ⟨⟨by decide, by decide⟩, by decide, by decide⟩ vC.rf rfl).1.1.2.1
        obtain ⟨z, Z, A, B, k1, k2, k3⟩ := sp_spans (V := V) (p := p) (s := gn W (p : Int) (W 90 25).toNat) (P := P) (f := sfn W p 0) (g := sfn W p 1) (fun t a b U U1 z ht hab hC m => (own_F ho p10 t a b U U1 z ht hab hC m).1) h7 (fun a b hab => (hb a b hab).2.2) hc
        have key := pf_val_ind2 (d := ((0 : Int), W)) (b := C) (fun q => -12 ≤ q.2.2.1 ∧ q.2.2.1 ≤ 13 ∧ rv p (gn W (p : Int) (W 90 25).toNat) P (sfn W p 0) (sfn W p 1) V W q.1 q.2.1 q.2.2.1 (-12) q.2.2.2) (fun o => ∃ A' B', sgr A' B' ∧ (∀ x y, sgr x y → bt (sfn W p 0) (sfn W p 1) A' B' x y) ∧ o.1 = if a2 = 0 then A' else B') (fun q => (13 - q.2.2.1).toNat) ?_ (-2147483648, 0, -12, W) ⟨show (-12 : Int) ≤ -12 by decide, show (-12 : Int) ≤ 13 by decide, ⟨⟨_, _, ho⟩, rfl, rfl⟩, Or.inl ⟨rfl, rfl, rfl⟩⟩
        · rw [← e2] at key
          obtain ⟨A', B', g1, g2, g3⟩ := key
          obtain ⟨rfl, rfl⟩ := (k3 A' B' g1).one (g2 A B k2.2.2.2.2)
          replace e1 := e1.trans (pf_call_eq k1)
          by_cases c4 : a2 = 0
          · rw [if_pos c4] at g3
            exact ⟨A, Z, (F_X12_own (p : Int) a2 W).2, (e1.trans (if_neg (fun q => q c4))).trans (pf_let_eq k2.2.1), Prod.ext g3 rfl, k2.ck⟩
          · rw [if_neg c4] at g3
            exact ⟨B, Z, (F_X12_own (p : Int) a2 W).2, (e1.trans (if_pos c4)).trans (pf_let_eq k2.2.2.1), Prod.ext g3 rfl, k2.ck⟩
        · rintro ⟨bA, bB, a, Y⟩ ⟨p0, p1, hv⟩
          dsimp only at p0 p1 hv
          have q := (((congrFun hC (bA, bB, a, Y)).trans (pf_let_eq rfl)).trans (pf_let_eq rfl))
          by_cases ca : 12 < a
          · replace q := q.trans (if_pos ca)
            rcases hv.2 with ⟨-, ha, -⟩ | ⟨hg, -, -, -, hbt⟩
            · exfalso
              omega
            · have hall : ∀ x y, sgr x y → bt (sfn W p 0) (sfn W p 1) bA bB x y := fun x y hxy => hbt x y hxy (by
                have := hxy.1
                omega)
              by_cases c4 : a2 = 0
              · exact Or.inr ⟨_, q.trans (if_neg (fun s => s c4)), bA, bB, hg, hall, (if_pos c4).symm⟩
              · exact Or.inr ⟨_, q.trans (if_pos c4), bA, bB, hg, hall, (if_neg c4).symm⟩
          · replace q := q.trans (if_neg ca)
            obtain ⟨L, hL, q⟩ := pf_loop q
            have key2 := pf_val_ind2 (d := (.inr ((0 : Int), W))) (b := L) (fun q => -12 ≤ q.2.2.1 ∧ q.2.2.1 ≤ 13 ∧ rv p (gn W (p : Int) (W 90 25).toNat) P (sfn W p 0) (sfn W p 1) V W q.1 q.2.1 a q.2.2.1 q.2.2.2) (fun o => ∃ A' B' Y', o = .inl (A', B', a + 1, Y') ∧ rv p (gn W (p : Int) (W 90 25).toNat) P (sfn W p 0) (sfn W p 1) V W A' B' (a + 1) (-12) Y') (fun q => (13 - q.2.2.1).toNat) ?_ (bA, bB, -12, Y) ⟨Int.le_refl _, show (-12 : Int) ≤ 13 by decide, hv⟩
            · obtain ⟨A', B', Y', k4, k5⟩ := key2
              exact Or.inl ⟨_, q.trans k4, ⟨by dsimp only; omega, by dsimp only; omega, k5⟩, by dsimp only; omega⟩
            · rintro ⟨bA, bB, b, Y⟩ ⟨q0, q1, hv⟩
              dsimp only at q0 q1 hv
              have r := (((congrFun hL (bA, bB, b, Y)).trans (pf_let_eq rfl)).trans (pf_let_eq rfl))
              by_cases cb : 12 < b
              · refine Or.inr ⟨_, (r.trans (if_pos cb)).trans (pf_let_eq rfl), bA, bB, Y, rfl, hv.1, ?_⟩
                rcases hv.2 with ⟨-, -, hb12⟩ | ⟨hg, hlt, hn, hm, hbt⟩
                · exfalso
                  omega
                · refine Or.inr ⟨hg, Or.inl (by omega), hn, hm, fun x y hxy hx => hbt x y hxy ?_⟩
                  have := hxy.2
                  omega
              · replace r := r.trans (if_neg cb)
                rw [i0, i1] at r
                obtain ⟨A', B', Y', m1, m2⟩ := rv_step (fun a b Y Y1 z hab hr m => own_R ho p10 a b Y Y1 z hab hr m) hb hs (a := a) (b := b) ⟨⟨p0, by omega⟩, q0, by omega⟩ hv r
                exact Or.inl ⟨_, m1, ⟨by dsimp only; omega, by dsimp only; omega, m2⟩, by dsimp only; omega⟩
    · replace e2 := (e2.trans (pf_call_eq ((nf_in a2 0 2).2 c2))).trans (if_neg (by decide))
      by_cases c3 : a2 < 0
      · exact ⟨_, _, _, e1.trans (if_pos c3), e2, hc⟩
      · exact ⟨_, _, _, (e1.trans (if_neg c3)).trans (if_neg (by omega)), e2, hc⟩
  · exact ⟨_, _, _, (e1.trans (pf_call_eq ((nf_isPerson a1).2 (by rw [h5]; exact cp)))).trans (if_pos (by decide)), (e2.trans (pf_call_eq ((nf_isPersonR a1).2 cp))).trans (if_pos (by decide)), hc⟩
theorem mA_own {V : pm_M} (_ : (V 0 8 = 45 ∧ V 45 0 = 0) ∨ (V 0 8 = 51 ∧ V 51 0 = 0)) (h5 : V 4 1 = 0) (_ : V 4 6 = 0) (_ : V 15 0 = 0) (_ : V 25 0 = 0) (_ : V 35 0 = 0) (a1 a2 : Int) : F_X11_own a1 a2 V = (-2147483648, V) :=
  ((F_X11_own_eq a1 a2 V).trans (pf_call_eq ((nf_isPerson a1).2 (by omega)))).trans (if_pos (by decide))
