/-! WHEN A DRAW IS REFUSED -/
set_option maxHeartbeats 4000000 in
theorem dr_C {V V1 : pm_M} {y : Int} (a1 a2 a3 a4 : Int) (h : F_X11_draw a1 a2 a3 a4 V = (y, V1)) (hb : 0 ≤ V1 4 6) : y = -1 ↔ ¬ (0 ≤ a1 ∧ a1 ≤ 6 ∧ 0 ≤ a2 ∧ a2 < V 4 1 ∧ 0 ≤ a3 ∧ a3 ≤ 1000000 ∧ 1 ≤ a4 ∧ a4 ≤ 20 ∧ V 4 6 + a4 ≤ 60) := by
  have e := F_X11_draw_eq a1 a2 a3 a4 V
  obtain ⟨u1, hu2⟩ : ∃ y, V 4 6 = y := ⟨_, rfl⟩
  replace e := e.trans (pf_let_eq hu2)
  by_cases c3 : 0 ≤ a1 ∧ a1 ≤ 6
  · replace e := e.trans (pf_call_eq ((nf_isLaw (V := V) a1).1 c3))
    replace e := e.trans (if_neg (by decide))
    by_cases c5 : 0 ≤ a2 ∧ a2 < V 4 1
    · replace e := e.trans (pf_call_eq ((nf_isPerson (V := V) a2).1 c5))
      replace e := e.trans (if_neg (by decide))
      by_cases c7 : a3 < 0
      · replace e := e.trans (if_pos c7)
        have hy : y = -1 := congrArg Prod.fst (h.symm.trans e)
        exact ⟨fun _ => by omega, fun _ => hy⟩
      · replace e := e.trans (if_neg c7)
        by_cases c8 : 1000000 < a3
        · replace e := e.trans (if_pos c8)
          have hy : y = -1 := congrArg Prod.fst (h.symm.trans e)
          exact ⟨fun _ => by omega, fun _ => hy⟩
        · replace e := e.trans (if_neg c8)
          by_cases c9 : a4 < 1
          · replace e := e.trans (if_pos c9)
            have hy : y = -1 := congrArg Prod.fst (h.symm.trans e)
            exact ⟨fun _ => by omega, fun _ => hy⟩
          · replace e := e.trans (if_neg c9)
            by_cases c10 : 20 < a4
            · replace e := e.trans (if_pos c10)
              have hy : y = -1 := congrArg Prod.fst (h.symm.trans e)
              exact ⟨fun _ => by omega, fun _ => hy⟩
            · replace e := e.trans (if_neg c10)
              by_cases c11 : (u1 + a4) ≤ 60
              · replace e := e.trans (if_pos c11)
                obtain ⟨u12, hu13⟩ : ∃ y, (pm_up V 0 16 a3) = y := ⟨_, rfl⟩
                replace e := e.trans (pf_let_eq hu13)
                have g := h.symm.trans e
                obtain ⟨B, hB, g⟩ := pf_loop g
                have hn : y ≠ -1 := by
                  rcases pf_val_out ((0 : Int), V) B _ with q | ⟨⟨k, U⟩, q⟩
                  · have hy : y = 0 := congrArg Prod.fst (g.trans q)
                    omega
                  · rw [← g, hB] at q
                    dsimp only [pf_let, pf_call] at q
                    by_cases c : a4 ≤ k
                    · rw [if_pos c] at q
                      have q1 := Sum.inr.inj q
                      have e1 : U 4 6 = y := congrArg Prod.fst q1
                      have e2 : U = V1 := congrArg Prod.snd q1
                      rw [e2] at e1
                      omega
                    · rw [if_neg c] at q
                      exact absurd q (by simp)
                exact ⟨fun q => absurd q hn, fun q => by exfalso; omega⟩
              · replace e := e.trans (if_neg c11)
                have hy : y = -1 := congrArg Prod.fst (h.symm.trans e)
                exact ⟨fun _ => by omega, fun _ => hy⟩
    · replace e := e.trans (pf_call_eq ((nf_isPerson (V := V) a2).2 c5))
      replace e := e.trans (if_pos (by decide))
      have hy : y = -1 := congrArg Prod.fst (h.symm.trans e)
      exact ⟨fun _ => by omega, fun _ => hy⟩
  · replace e := e.trans (pf_call_eq ((nf_isLaw (V := V) a1).2 c3))
    replace e := e.trans (if_pos (by decide))
    have hy : y = -1 := congrArg Prod.fst (h.symm.trans e)
    exact ⟨fun _ => by omega, fun _ => hy⟩
set_option maxHeartbeats 4000000 in
theorem dr_R {V V1 : pm_M} {y : Int} (a1 a2 a3 a4 : Int) (h : F_X12_draw a1 a2 a3 a4 V = (y, V1)) (hb : 0 ≤ V1 90 25) : y = -1 ↔ ¬ (0 ≤ a1 ∧ a1 ≤ 6 ∧ 0 ≤ a2 ∧ a2 < V 90 23 ∧ 0 ≤ a3 ∧ a3 ≤ 1000000 ∧ 1 ≤ a4 ∧ a4 ≤ 20 ∧ V 90 25 + a4 ≤ 60) := by
  have e := F_X12_draw_eq a1 a2 a3 a4 V
  obtain ⟨u1, hu2⟩ : ∃ y, V 90 16 = y := ⟨_, rfl⟩
  replace e := e.trans (pf_let_eq hu2)
  obtain ⟨u3, hu4⟩ : ∃ y, V 90 25 = y := ⟨_, rfl⟩
  replace e := e.trans (pf_let_eq hu4)
  by_cases c5 : 0 ≤ a1 ∧ a1 ≤ 6
  · replace e := e.trans (pf_call_eq ((nf_isLawR (V := V) a1).1 c5))
    replace e := e.trans (if_neg (by decide))
    by_cases c7 : 0 ≤ a2 ∧ a2 < V 90 23
    · replace e := e.trans (pf_call_eq ((nf_isPersonR (V := V) a2).1 c7))
      replace e := e.trans (if_neg (by decide))
      by_cases c9 : 0 ≤ a3 ∧ a3 ≤ 1000000
      · replace e := e.trans (pf_call_eq ((nf_in (V := V) a3 0 1000000).1 c9))
        replace e := e.trans (if_neg (by decide))
        by_cases c11 : 1 ≤ a4 ∧ a4 ≤ 20
        · replace e := e.trans (pf_call_eq ((nf_in (V := V) a4 1 20).1 c11))
          replace e := e.trans (if_neg (by decide))
          by_cases c13 : (u3 + a4) ≤ 60
          · replace e := e.trans (if_pos c13)
            obtain ⟨u14, hu15⟩ : ∃ y, (pm_up V 90 57 a3) = y := ⟨_, rfl⟩
            replace e := e.trans (pf_let_eq hu15)
            have g := h.symm.trans e
            obtain ⟨B, hB, g⟩ := pf_loop g
            have hn : y ≠ -1 := by
              rcases pf_val_out ((0 : Int), V) B _ with q | ⟨⟨k, U⟩, q⟩
              · have hy : y = 0 := congrArg Prod.fst (g.trans q)
                omega
              · rw [← g, hB] at q
                dsimp only [pf_let, pf_call] at q
                by_cases c : a4 ≤ k
                · rw [if_pos c] at q
                  have q1 := Sum.inr.inj q
                  have e1 : U 90 25 = y := congrArg Prod.fst q1
                  have e2 : U = V1 := congrArg Prod.snd q1
                  rw [e2] at e1
                  omega
                · rw [if_neg c] at q
                  obtain ⟨B2, hB2, q⟩ := pf_loop q.symm
                  rcases pf_val_out (Sum.inr ((0 : Int), V)) B2 _ with r | ⟨⟨k2, U2⟩, r⟩
                  · have r1 := Sum.inr.inj (q.trans r)
                    have hy : y = 0 := congrArg Prod.fst r1
                    omega
                  · rw [← q, hB2] at r
                    dsimp only at r
                    split at r
                    · split at r
                      · exact absurd r (by simp)
                      · exact absurd r (by simp)
                    · exact absurd r (by simp)
            exact ⟨fun q => absurd q hn, fun q => by exfalso; omega⟩
          · replace e := e.trans (if_neg c13)
            have hy : y = -1 := congrArg Prod.fst (h.symm.trans e)
            exact ⟨fun _ => by omega, fun _ => hy⟩
        · replace e := e.trans (pf_call_eq ((nf_in (V := V) a4 1 20).2 c11))
          replace e := e.trans (if_pos (by decide))
          have hy : y = -1 := congrArg Prod.fst (h.symm.trans e)
          exact ⟨fun _ => by omega, fun _ => hy⟩
      · replace e := e.trans (pf_call_eq ((nf_in (V := V) a3 0 1000000).2 c9))
        replace e := e.trans (if_pos (by decide))
        have hy : y = -1 := congrArg Prod.fst (h.symm.trans e)
        exact ⟨fun _ => by omega, fun _ => hy⟩
    · replace e := e.trans (pf_call_eq ((nf_isPersonR (V := V) a2).2 c7))
      replace e := e.trans (if_pos (by decide))
      have hy : y = -1 := congrArg Prod.fst (h.symm.trans e)
      exact ⟨fun _ => by omega, fun _ => hy⟩
  · replace e := e.trans (pf_call_eq ((nf_isLawR (V := V) a1).2 c5))
    replace e := e.trans (if_pos (by decide))
    have hy : y = -1 := congrArg Prod.fst (h.symm.trans e)
    exact ⟨fun _ => by omega, fun _ => hy⟩
