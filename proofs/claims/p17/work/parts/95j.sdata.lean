/-! A NEW SCENE: its one person -/
theorem bg_data {a z : Int} {V Z : pm_M} (h : F_X7_begin a V = (z, Z)) : Z 5 0 = 0 ∧ Z 6 0 = 0 ∧ Z 7 0 = a ∧ Z 8 0 = 0 ∧ ∀ k i, k ≠ 4 → k ≠ 5 → k ≠ 6 → k ≠ 7 → k ≠ 8 → Z k i = V k i := by
  have e := h.symm.trans (F_X7_begin_eq a V)
  simp only [pf_let] at e
  have q := F_X7_addPerson_eq 0 0 a 0 (pm_up (pm_up V 4 1 0) 4 6 0)
  have t : pm_up (pm_up V 4 1 0) 4 6 0 4 1 = 0 := by
    rw [pm_up_i (by decide), pm_up_s]
  simp only [pf_let] at q
  rw [t] at q
  replace q := q.trans (if_pos (by decide))
  replace q := q.trans (pf_call_eq (F_X7_changePerson_eq _ _ _ _ _))
  replace e := e.trans (pf_call_eq q)
  obtain ⟨-, rfl⟩ := Prod.mk.inj e
  refine ⟨?_, ?_, ?_, ?_, fun k i k4 k5 k6 k7 k8 => ?_⟩
  · rw [pm_up_c (by decide), pm_up_c (by decide), pm_up_c (by decide)]
    exact pm_up_s
  · rw [pm_up_c (by decide), pm_up_c (by decide)]
    exact pm_up_s
  · rw [pm_up_c (by decide)]
    exact pm_up_s
  · rw [pm_up_c (by decide), pm_up_c (by decide), pm_up_c (by decide), pm_up_c (by decide)]
    exact pm_up_s
  · rw [pm_up_c k4, pm_up_c k7, pm_up_c k6, pm_up_c k5, pm_up_c k8, pm_up_c k4, pm_up_c k4]
theorem sc_fin {V Z4 Zb V1 : pm_M} {c : Nat} {d o y y1 z u : Int} {B : Int × pm_M → (Int × pm_M) ⊕ (Int × pm_M)} (hc : (c = 45 ∧ d = 45) ∨ (c = 51 ∧ d = 51)) (hu : Z4 c 8 = u) (hq : F_X7_begin u (pm_up (pm_up (pm_up Z4 0 8 d) 0 9 o) 1 1 0) = (z, Zb)) (hB : ∀ (x : Int) (U : pm_M), B (x, U) = if 3 ≤ x then .inr (y, U) else if x = 0 then .inl (x + 1, pm_up U 15 0 0) else if x = 1 then .inl (x + 1, pm_up U 25 0 0) else .inl (x + 1, pm_up U 35 0 0)) (he : (y1, V1) = pf_val ((0 : Int), V) B (0, Zb)) : V1 5 0 = 0 ∧ V1 6 0 = 0 ∧ V1 7 0 = V1 (V1 0 8).toNat 8 ∧ V1 8 0 = 0 := by
  obtain ⟨b5, b6, b7, b8, bf⟩ := bg_data hq
  have key := pf_val_ind2 (d := ((0 : Int), V)) (b := B) (fun s => ∀ k i, k ≠ 15 → k ≠ 25 → k ≠ 35 → s.2 k i = Zb k i) (fun o => ∀ k i, k ≠ 15 → k ≠ 25 → k ≠ 35 → o.2 k i = Zb k i) (fun s => (3 - s.1).toNat) ?_ (0, Zb) (fun k i _ _ _ => rfl)
  · rw [← he] at key
    dsimp only at key
    have f8 : V1 0 8 = d := by
      rw [key 0 8 (by decide) (by decide) (by decide), bf 0 8 (by decide) (by decide) (by decide) (by decide) (by decide), pm_up_c (by decide), pm_up_i (by decide), pm_up_s]
    refine ⟨by rw [key 5 0 (by decide) (by decide) (by decide)]; exact b5, by rw [key 6 0 (by decide) (by decide) (by decide)]; exact b6, ?_, by rw [key 8 0 (by decide) (by decide) (by decide)]; exact b8⟩
    have hd : d.toNat = c := by omega
    rw [key 7 0 (by decide) (by decide) (by decide), b7, f8, hd, key c 8 (by omega) (by omega) (by omega), bf c 8 (by omega) (by omega) (by omega) (by omega) (by omega), pm_up_c (by omega), pm_up_c (by omega), pm_up_c (by omega)]
    exact hu.symm
  · rintro ⟨x, U⟩ p
    dsimp only at p
    have b0 := hB x U
    by_cases c1 : 3 ≤ x
    · rw [if_pos c1] at b0
      exact Or.inr ⟨_, b0, p⟩
    · rw [if_neg c1] at b0
      by_cases c2 : x = 0
      · rw [if_pos c2] at b0
        exact Or.inl ⟨_, b0, fun k i q1 q2 q3 => by dsimp only; rw [pm_up_c q1]; exact p k i q1 q2 q3, by dsimp only; omega⟩
      · rw [if_neg c2] at b0
        by_cases c3 : x = 1
        · rw [if_pos c3] at b0
          exact Or.inl ⟨_, b0, fun k i q1 q2 q3 => by dsimp only; rw [pm_up_c q2]; exact p k i q1 q2 q3, by dsimp only; omega⟩
        · rw [if_neg c3] at b0
          exact Or.inl ⟨_, b0, fun k i q1 q2 q3 => by dsimp only; rw [pm_up_c q3]; exact p k i q1 q2 q3, by dsimp only; omega⟩
/-- the reference's -/
theorem sc_dR {W W1 : pm_M} {y : Int} (h : F_X12_scene W = (y, W1)) (hy : y ≠ -1) : W1 100 0 = 0 ∧ W1 100 1 = 0 ∧ W1 100 2 = W1 90 19 ∧ W1 100 3 = 0 := by
  have e := h.symm.trans (F_X12_scene_eq W)
  obtain ⟨y4, V2, hf⟩ : ∃ z Z, F_X12_sceneFault W = (z, Z) := ⟨_, _, rfl⟩
  replace e := e.trans (pf_call_eq hf)
  simp only [pf_let] at e
  obtain ⟨a, ha⟩ : ∃ a, V2 90 11 = a := ⟨_, rfl⟩
  rw [ha] at e
  by_cases c : y4 = -1
  · replace e := e.trans (if_pos c)
    let G : Int × pm_M → Prop := fun o => o.2 100 0 = 0 ∧ o.2 100 1 = 0 ∧ o.2 100 2 = o.2 90 19 ∧ o.2 100 3 = 0
    obtain ⟨B, hB, e⟩ := pf_loop e
    have key := pf_val_ind2 (d := ((0 : Int), W)) (b := B) (fun s => True) G (fun s => (27 - s.1).toNat) ?_ (0, pm_up (pm_up (pm_up V2 90 15 1) 90 16 (V2 90 6)) 90 21 (V2 90 13)) trivial
    · rw [← e] at key
      exact key
    · rintro ⟨x, U⟩ -
      have b0 := congrFun hB (x, U)
      dsimp only at b0
      by_cases c1 : 27 ≤ x
      · rw [if_pos c1] at b0
        obtain ⟨B2, hB2, b1⟩ := pf_loop b0
        have key2 := pf_val_ind2 (d := (Sum.inr ((0 : Int), W) : (Int × pm_M) ⊕ (Int × pm_M))) (b := B2) (fun s => True) (fun o => ∃ w, o = Sum.inr w ∧ G w) (fun s => (4 - s.1).toNat) ?_ (0, U) trivial
        · obtain ⟨w, w1, w2⟩ := key2
          rw [w1] at b1
          exact Or.inr ⟨w, b1, w2⟩
        · rintro ⟨x2, U2⟩ -
          have b2 := congrFun hB2 (x2, U2)
          dsimp only at b2
          by_cases c2 : 4 ≤ x2
          · rw [if_pos c2] at b2
            obtain ⟨B3, hB3, b3⟩ := pf_loop b2
            have key3 := pf_val_ind2 (d := (Sum.inr (Sum.inr ((0 : Int), W)) : (Int × pm_M) ⊕ ((Int × pm_M) ⊕ (Int × pm_M)))) (b := B3) (fun s => True) (fun o => ∃ w, o = Sum.inr (Sum.inr w) ∧ G w) (fun s => (36 - s.1).toNat) ?_ (0, U2) trivial
            · obtain ⟨w, w1, w2⟩ := key3
              rw [w1] at b3
              exact Or.inr ⟨_, b3, w, rfl, w2⟩
            · rintro ⟨x3, U3⟩ -
              have b4 := congrFun hB3 (x3, U3)
              dsimp only at b4
              by_cases c3 : 36 ≤ x3
              · rw [if_pos c3] at b4
                have fin : ∀ (B4 : Int × pm_M → (Int × pm_M) ⊕ ((Int × pm_M) ⊕ ((Int × pm_M) ⊕ ((Int × pm_M) ⊕ (Int × pm_M))))) (S : pm_M) (v : Int) (o : (Int × pm_M) ⊕ ((Int × pm_M) ⊕ ((Int × pm_M) ⊕ (Int × pm_M)))), o = pf_val (Sum.inr (Sum.inr (Sum.inr ((0 : Int), W))) : (Int × pm_M) ⊕ ((Int × pm_M) ⊕ ((Int × pm_M) ⊕ (Int × pm_M)))) B4 (0, S) → (∀ (x : Int) (U : pm_M), B4 (x, U) = if 3 ≤ x then .inr (.inr (.inr (.inr (v, pm_up U 90 1 0)))) else .inl (x + 1, pm_up U 102 x.toNat 0)) → (S 100 0 = 0 ∧ S 100 1 = 0 ∧ S 100 2 = S 90 19 ∧ S 100 3 = 0) → ∃ w, o = Sum.inr (Sum.inr (Sum.inr w)) ∧ G w := by
                  intro B4 S v o ho h4 hS
                  rw [ho]
                  refine pf_val_ind2 (b := B4) (fun s => s.2 100 0 = 0 ∧ s.2 100 1 = 0 ∧ s.2 100 2 = s.2 90 19 ∧ s.2 100 3 = 0) (fun o => ∃ w, o = Sum.inr (Sum.inr (Sum.inr w)) ∧ G w) (fun s => (3 - s.1).toNat) ?_ (0, S) hS
                  rintro ⟨x4, U4⟩ p
                  dsimp only at p
                  have b5 := h4 x4 U4
                  by_cases c4 : 3 ≤ x4
                  · rw [if_pos c4] at b5
                    refine Or.inr ⟨_, b5, _, rfl, ?_⟩
                    show pm_up U4 90 1 0 100 0 = 0 ∧ pm_up U4 90 1 0 100 1 = 0 ∧ pm_up U4 90 1 0 100 2 = pm_up U4 90 1 0 90 19 ∧ pm_up U4 90 1 0 100 3 = 0
                    rw [pm_up_c (a := 100) (by decide), pm_up_c (a := 100) (by decide), pm_up_c (a := 100) (by decide), pm_up_c (a := 100) (by decide), pm_up_i (by decide)]
                    exact p
                  · rw [if_neg c4] at b5
                    refine Or.inl ⟨_, b5, ?_, by dsimp only; omega⟩
                    dsimp only
                    rw [pm_up_c (by decide), pm_up_c (by decide), pm_up_c (by decide), pm_up_c (by decide), pm_up_c (by decide)]
                    exact p
                by_cases c5 : a = -1
                · rw [if_neg (fun q => q c5), if_neg (fun q => q c5)] at b4
                  obtain ⟨B4, hB4, b5⟩ := pf_loop b4
                  obtain ⟨w, w1, w2⟩ := fin B4 _ (V2 90 6) _ b5 (fun x U => congrFun hB4 (x, U)) (by refine ⟨?_, ?_, ?_, ?_⟩ <;> simp [pm_up])
                  exact Or.inr ⟨_, w1, w, rfl, w2⟩
                · rw [if_pos c5, if_pos c5] at b4
                  obtain ⟨B4, hB4, b5⟩ := pf_loop b4
                  obtain ⟨w, w1, w2⟩ := fin B4 _ (V2 90 6) _ b5 (fun x U => congrFun hB4 (x, U)) (by refine ⟨?_, ?_, ?_, ?_⟩ <;> simp [pm_up])
                  exact Or.inr ⟨_, w1, w, rfl, w2⟩
              · rw [if_neg c3] at b4
                exact Or.inl ⟨_, b4, trivial, by dsimp only; omega⟩
          · rw [if_neg c2] at b2
            exact Or.inl ⟨_, b2, trivial, by dsimp only; omega⟩
      · rw [if_neg c1] at b0
        exact Or.inl ⟨_, b0, trivial, by dsimp only; omega⟩
  · replace e := e.trans (if_neg c)
    obtain ⟨rfl, -⟩ := Prod.mk.inj e
    exact absurd rfl hy
