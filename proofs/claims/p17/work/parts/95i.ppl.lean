/-! PEOPLE'S DATA kept by the methods that change it -/
set_option maxHeartbeats 40000000 in
theorem mP_person {V W V1 W1 : pm_M} {y y2 : Int} (hq : rq V W) (hp : rp V W) (hb : 2 ≤ W 90 16 ∧ 0 ≤ W 90 23 ∧ W 90 23 ≤ 10 ∧ 0 ≤ W 90 25 ∧ W 90 25 ≤ 60) (a1 a2 a3 : Int) (he : F_X11_person a1 a2 a3 V = (y, V1)) (hf : F_X12_person a1 a2 a3 W = (y2, W1)) : rp V1 W1 := by
  have hs := hq.hs
  obtain ⟨h1, h2, h3, h4, h5, h6, h7⟩ := hq
  rcases h1 with ⟨h8, -⟩ | ⟨h8, -⟩
  · skip
    have e := F_X11_person_eq a1 a2 a3 V
    by_cases c1 : -30 ≤ a1 ∧ a1 ≤ 30 ∧ -30 ≤ a2 ∧ a2 ≤ 30
    · replace e := e.trans (pf_call_eq ((nf_areChanges (V := V) a1 a2).1 c1))
      replace e := e.trans (if_neg (by decide))
      by_cases c3 : a3 < 0
      · replace e := e.trans (if_pos c3)
        by_cases c4 : (0 : Int) < W 90 16
        · replace e := e.trans (pf_call_eq ((nf_hasScene (V := V) hs).1 c4))
          replace e := e.trans (if_neg (by decide))
          obtain ⟨-, rfl⟩ := Prod.mk.inj (he.symm.trans e)
          have f := F_X12_person_eq a1 a2 a3 W
          by_cases c6 : a3 < 0
          · replace f := f.trans (if_pos c6)
            obtain ⟨-, rfl⟩ := Prod.mk.inj (hf.symm.trans f)
            exact hp
          · replace f := f.trans (if_neg c6)
            by_cases c7 : 3 < (a3 / 100)
            · replace f := f.trans (if_pos c7)
              obtain ⟨-, rfl⟩ := Prod.mk.inj (hf.symm.trans f)
              exact hp
            · replace f := f.trans (if_neg c7)
              by_cases c8 : -30 ≤ a1 ∧ a1 ≤ 30 ∧ -30 ≤ a2 ∧ a2 ≤ 30 ∧ 0 ≤ (a3 % 100) ∧ (a3 % 100) ≤ 16
              · replace f := f.trans (pf_call_eq ((nf_areChangesR (V := W) a1 a2 (a3 % 100)).1 c8))
                replace f := f.trans (if_neg (by decide))
                obtain ⟨u10, hu11⟩ : ∃ y, W 90 23 = y := ⟨_, rfl⟩
                replace f := f.trans (pf_let_eq hu11)
                by_cases c12 : ¬ (u10 = 10)
                · replace f := f.trans (if_pos c12)
                  obtain ⟨-, rfl⟩ := Prod.mk.inj (hf.symm.trans f)
                  exfalso; omega
                · replace f := f.trans (if_neg c12)
                  obtain ⟨-, rfl⟩ := Prod.mk.inj (hf.symm.trans f)
                  exact hp
              · replace f := f.trans (pf_call_eq ((nf_areChangesR (V := W) a1 a2 (a3 % 100)).2 c8))
                replace f := f.trans (if_pos (by decide))
                obtain ⟨-, rfl⟩ := Prod.mk.inj (hf.symm.trans f)
                exact hp
        · replace e := e.trans (pf_call_eq ((nf_hasScene (V := V) hs).2 c4))
          replace e := e.trans (if_pos (by decide))
          obtain ⟨-, rfl⟩ := Prod.mk.inj (he.symm.trans e)
          have f := F_X12_person_eq a1 a2 a3 W
          by_cases c13 : a3 < 0
          · replace f := f.trans (if_pos c13)
            obtain ⟨-, rfl⟩ := Prod.mk.inj (hf.symm.trans f)
            exact hp
          · replace f := f.trans (if_neg c13)
            by_cases c14 : 3 < (a3 / 100)
            · replace f := f.trans (if_pos c14)
              obtain ⟨-, rfl⟩ := Prod.mk.inj (hf.symm.trans f)
              exact hp
            · replace f := f.trans (if_neg c14)
              by_cases c15 : -30 ≤ a1 ∧ a1 ≤ 30 ∧ -30 ≤ a2 ∧ a2 ≤ 30 ∧ 0 ≤ (a3 % 100) ∧ (a3 % 100) ≤ 16
              · replace f := f.trans (pf_call_eq ((nf_areChangesR (V := W) a1 a2 (a3 % 100)).1 c15))
                replace f := f.trans (if_neg (by decide))
                obtain ⟨u17, hu18⟩ : ∃ y, W 90 23 = y := ⟨_, rfl⟩
                replace f := f.trans (pf_let_eq hu18)
                by_cases c19 : ¬ (u17 = 10)
                · replace f := f.trans (if_pos c19)
                  obtain ⟨-, rfl⟩ := Prod.mk.inj (hf.symm.trans f)
                  exfalso; omega
                · replace f := f.trans (if_neg c19)
                  obtain ⟨-, rfl⟩ := Prod.mk.inj (hf.symm.trans f)
                  exact hp
              · replace f := f.trans (pf_call_eq ((nf_areChangesR (V := W) a1 a2 (a3 % 100)).2 c15))
                replace f := f.trans (if_pos (by decide))
                obtain ⟨-, rfl⟩ := Prod.mk.inj (hf.symm.trans f)
                exact hp
      · replace e := e.trans (if_neg c3)
        by_cases c20 : 3 < (a3 / 100)
        · replace e := e.trans (if_pos c20)
          by_cases c21 : (0 : Int) < W 90 16
          · replace e := e.trans (pf_call_eq ((nf_hasScene (V := V) hs).1 c21))
            replace e := e.trans (if_neg (by decide))
            obtain ⟨-, rfl⟩ := Prod.mk.inj (he.symm.trans e)
            have f := F_X12_person_eq a1 a2 a3 W
            by_cases c23 : a3 < 0
            · replace f := f.trans (if_pos c23)
              obtain ⟨-, rfl⟩ := Prod.mk.inj (hf.symm.trans f)
              exact hp
            · replace f := f.trans (if_neg c23)
              by_cases c24 : 3 < (a3 / 100)
              · replace f := f.trans (if_pos c24)
                obtain ⟨-, rfl⟩ := Prod.mk.inj (hf.symm.trans f)
                exact hp
              · replace f := f.trans (if_neg c24)
                by_cases c25 : -30 ≤ a1 ∧ a1 ≤ 30 ∧ -30 ≤ a2 ∧ a2 ≤ 30 ∧ 0 ≤ (a3 % 100) ∧ (a3 % 100) ≤ 16
                · replace f := f.trans (pf_call_eq ((nf_areChangesR (V := W) a1 a2 (a3 % 100)).1 c25))
                  replace f := f.trans (if_neg (by decide))
                  obtain ⟨u27, hu28⟩ : ∃ y, W 90 23 = y := ⟨_, rfl⟩
                  replace f := f.trans (pf_let_eq hu28)
                  by_cases c29 : ¬ (u27 = 10)
                  · replace f := f.trans (if_pos c29)
                    obtain ⟨-, rfl⟩ := Prod.mk.inj (hf.symm.trans f)
                    exfalso; omega
                  · replace f := f.trans (if_neg c29)
                    obtain ⟨-, rfl⟩ := Prod.mk.inj (hf.symm.trans f)
                    exact hp
                · replace f := f.trans (pf_call_eq ((nf_areChangesR (V := W) a1 a2 (a3 % 100)).2 c25))
                  replace f := f.trans (if_pos (by decide))
                  obtain ⟨-, rfl⟩ := Prod.mk.inj (hf.symm.trans f)
                  exact hp
          · replace e := e.trans (pf_call_eq ((nf_hasScene (V := V) hs).2 c21))
            replace e := e.trans (if_pos (by decide))
            obtain ⟨-, rfl⟩ := Prod.mk.inj (he.symm.trans e)
            have f := F_X12_person_eq a1 a2 a3 W
            by_cases c30 : a3 < 0
            · replace f := f.trans (if_pos c30)
              obtain ⟨-, rfl⟩ := Prod.mk.inj (hf.symm.trans f)
              exact hp
            · replace f := f.trans (if_neg c30)
              by_cases c31 : 3 < (a3 / 100)
              · replace f := f.trans (if_pos c31)
                obtain ⟨-, rfl⟩ := Prod.mk.inj (hf.symm.trans f)
                exact hp
              · replace f := f.trans (if_neg c31)
                by_cases c32 : -30 ≤ a1 ∧ a1 ≤ 30 ∧ -30 ≤ a2 ∧ a2 ≤ 30 ∧ 0 ≤ (a3 % 100) ∧ (a3 % 100) ≤ 16
                · replace f := f.trans (pf_call_eq ((nf_areChangesR (V := W) a1 a2 (a3 % 100)).1 c32))
                  replace f := f.trans (if_neg (by decide))
                  obtain ⟨u34, hu35⟩ : ∃ y, W 90 23 = y := ⟨_, rfl⟩
                  replace f := f.trans (pf_let_eq hu35)
                  by_cases c36 : ¬ (u34 = 10)
                  · replace f := f.trans (if_pos c36)
                    obtain ⟨-, rfl⟩ := Prod.mk.inj (hf.symm.trans f)
                    exfalso; omega
                  · replace f := f.trans (if_neg c36)
                    obtain ⟨-, rfl⟩ := Prod.mk.inj (hf.symm.trans f)
                    exact hp
                · replace f := f.trans (pf_call_eq ((nf_areChangesR (V := W) a1 a2 (a3 % 100)).2 c32))
                  replace f := f.trans (if_pos (by decide))
                  obtain ⟨-, rfl⟩ := Prod.mk.inj (hf.symm.trans f)
                  exact hp
        · replace e := e.trans (if_neg c20)
          by_cases c37 : 0 ≤ (a3 % 100) ∧ (a3 % 100) ≤ 16
          · replace e := e.trans (pf_call_eq ((nf_isBelief (V := V) (a3 % 100)).1 c37))
            replace e := e.trans (if_neg (by decide))
            by_cases c39 : (0 : Int) < W 90 16
            · replace e := e.trans (pf_call_eq ((nf_hasScene (V := V) hs).1 c39))
              replace e := e.trans (if_neg (by decide))
              obtain ⟨u41, hu42⟩ : ∃ y, V 4 1 = y := ⟨_, rfl⟩
              replace e := e.trans (pf_let_eq hu42)
              by_cases c43 : u41 < 10
              · replace e := e.trans (if_pos c43)
                have q44 := F_X7_addPerson_eq a1 a2 (a3 % 100) (a3 / 100) V
                obtain ⟨u45, hu46⟩ : ∃ y, V 4 1 = y := ⟨_, rfl⟩
                replace q44 := q44.trans (pf_let_eq hu46)
                by_cases c47 : u45 < 10
                · replace q44 := q44.trans (if_pos c47)
                  have q48 := F_X7_changePerson_eq u45 a1 a2 (a3 % 100) (pm_up V 8 (u45 : Int).toNat (a3 / 100))
                  replace q44 := q44.trans (pf_call_eq q48)
                  replace e := e.trans (pf_call_eq q44)
                  obtain ⟨-, rfl⟩ := Prod.mk.inj (he.symm.trans e)
                  have f := F_X12_person_eq a1 a2 a3 W
                  by_cases c49 : a3 < 0
                  · replace f := f.trans (if_pos c49)
                    obtain ⟨-, rfl⟩ := Prod.mk.inj (hf.symm.trans f)
                    exfalso; omega
                  · replace f := f.trans (if_neg c49)
                    by_cases c50 : 3 < (a3 / 100)
                    · replace f := f.trans (if_pos c50)
                      obtain ⟨-, rfl⟩ := Prod.mk.inj (hf.symm.trans f)
                      exfalso; omega
                    · replace f := f.trans (if_neg c50)
                      by_cases c51 : -30 ≤ a1 ∧ a1 ≤ 30 ∧ -30 ≤ a2 ∧ a2 ≤ 30 ∧ 0 ≤ (a3 % 100) ∧ (a3 % 100) ≤ 16
                      · replace f := f.trans (pf_call_eq ((nf_areChangesR (V := W) a1 a2 (a3 % 100)).1 c51))
                        replace f := f.trans (if_neg (by decide))
                        obtain ⟨u53, hu54⟩ : ∃ y, W 90 23 = y := ⟨_, rfl⟩
                        replace f := f.trans (pf_let_eq hu54)
                        by_cases c55 : ¬ (u53 = 10)
                        · replace f := f.trans (if_pos c55)
                          obtain ⟨-, rfl⟩ := Prod.mk.inj (hf.symm.trans f)
                          first | (exfalso; omega) | exact hp.add (by assumption) (by omega) (by omega) (by omega)
                        · replace f := f.trans (if_neg c55)
                          obtain ⟨-, rfl⟩ := Prod.mk.inj (hf.symm.trans f)
                          exfalso; omega
                      · replace f := f.trans (pf_call_eq ((nf_areChangesR (V := W) a1 a2 (a3 % 100)).2 c51))
                        replace f := f.trans (if_pos (by decide))
                        obtain ⟨-, rfl⟩ := Prod.mk.inj (hf.symm.trans f)
                        exfalso; omega
                · replace q44 := q44.trans (if_neg c47)
                  replace e := e.trans (pf_call_eq q44)
                  obtain ⟨-, rfl⟩ := Prod.mk.inj (he.symm.trans e)
                  have f := F_X12_person_eq a1 a2 a3 W
                  by_cases c56 : a3 < 0
                  · replace f := f.trans (if_pos c56)
                    obtain ⟨-, rfl⟩ := Prod.mk.inj (hf.symm.trans f)
                    exact hp
                  · replace f := f.trans (if_neg c56)
                    by_cases c57 : 3 < (a3 / 100)
                    · replace f := f.trans (if_pos c57)
                      obtain ⟨-, rfl⟩ := Prod.mk.inj (hf.symm.trans f)
                      exact hp
                    · replace f := f.trans (if_neg c57)
                      by_cases c58 : -30 ≤ a1 ∧ a1 ≤ 30 ∧ -30 ≤ a2 ∧ a2 ≤ 30 ∧ 0 ≤ (a3 % 100) ∧ (a3 % 100) ≤ 16
                      · replace f := f.trans (pf_call_eq ((nf_areChangesR (V := W) a1 a2 (a3 % 100)).1 c58))
                        replace f := f.trans (if_neg (by decide))
                        obtain ⟨u60, hu61⟩ : ∃ y, W 90 23 = y := ⟨_, rfl⟩
                        replace f := f.trans (pf_let_eq hu61)
                        by_cases c62 : ¬ (u60 = 10)
                        · replace f := f.trans (if_pos c62)
                          obtain ⟨-, rfl⟩ := Prod.mk.inj (hf.symm.trans f)
                          exfalso; omega
                        · replace f := f.trans (if_neg c62)
                          obtain ⟨-, rfl⟩ := Prod.mk.inj (hf.symm.trans f)
                          exact hp
                      · replace f := f.trans (pf_call_eq ((nf_areChangesR (V := W) a1 a2 (a3 % 100)).2 c58))
                        replace f := f.trans (if_pos (by decide))
                        obtain ⟨-, rfl⟩ := Prod.mk.inj (hf.symm.trans f)
                        exact hp
              · replace e := e.trans (if_neg c43)
                obtain ⟨-, rfl⟩ := Prod.mk.inj (he.symm.trans e)
                have f := F_X12_person_eq a1 a2 a3 W
                by_cases c63 : a3 < 0
                · replace f := f.trans (if_pos c63)
                  obtain ⟨-, rfl⟩ := Prod.mk.inj (hf.symm.trans f)
                  exact hp
                · replace f := f.trans (if_neg c63)
                  by_cases c64 : 3 < (a3 / 100)
                  · replace f := f.trans (if_pos c64)
                    obtain ⟨-, rfl⟩ := Prod.mk.inj (hf.symm.trans f)
                    exact hp
                  · replace f := f.trans (if_neg c64)
                    by_cases c65 : -30 ≤ a1 ∧ a1 ≤ 30 ∧ -30 ≤ a2 ∧ a2 ≤ 30 ∧ 0 ≤ (a3 % 100) ∧ (a3 % 100) ≤ 16
                    · replace f := f.trans (pf_call_eq ((nf_areChangesR (V := W) a1 a2 (a3 % 100)).1 c65))
                      replace f := f.trans (if_neg (by decide))
                      obtain ⟨u67, hu68⟩ : ∃ y, W 90 23 = y := ⟨_, rfl⟩
                      replace f := f.trans (pf_let_eq hu68)
                      by_cases c69 : ¬ (u67 = 10)
                      · replace f := f.trans (if_pos c69)
                        obtain ⟨-, rfl⟩ := Prod.mk.inj (hf.symm.trans f)
                        exfalso; omega
                      · replace f := f.trans (if_neg c69)
                        obtain ⟨-, rfl⟩ := Prod.mk.inj (hf.symm.trans f)
                        exact hp
                    · replace f := f.trans (pf_call_eq ((nf_areChangesR (V := W) a1 a2 (a3 % 100)).2 c65))
                      replace f := f.trans (if_pos (by decide))
                      obtain ⟨-, rfl⟩ := Prod.mk.inj (hf.symm.trans f)
                      exact hp
            · replace e := e.trans (pf_call_eq ((nf_hasScene (V := V) hs).2 c39))
              replace e := e.trans (if_pos (by decide))
              obtain ⟨-, rfl⟩ := Prod.mk.inj (he.symm.trans e)
              have f := F_X12_person_eq a1 a2 a3 W
              by_cases c70 : a3 < 0
              · replace f := f.trans (if_pos c70)
                obtain ⟨-, rfl⟩ := Prod.mk.inj (hf.symm.trans f)
                exact hp
              · replace f := f.trans (if_neg c70)
                by_cases c71 : 3 < (a3 / 100)
                · replace f := f.trans (if_pos c71)
                  obtain ⟨-, rfl⟩ := Prod.mk.inj (hf.symm.trans f)
                  exact hp
                · replace f := f.trans (if_neg c71)
                  by_cases c72 : -30 ≤ a1 ∧ a1 ≤ 30 ∧ -30 ≤ a2 ∧ a2 ≤ 30 ∧ 0 ≤ (a3 % 100) ∧ (a3 % 100) ≤ 16
                  · replace f := f.trans (pf_call_eq ((nf_areChangesR (V := W) a1 a2 (a3 % 100)).1 c72))
                    replace f := f.trans (if_neg (by decide))
                    obtain ⟨u74, hu75⟩ : ∃ y, W 90 23 = y := ⟨_, rfl⟩
                    replace f := f.trans (pf_let_eq hu75)
                    by_cases c76 : ¬ (u74 = 10)
                    · replace f := f.trans (if_pos c76)
                      obtain ⟨-, rfl⟩ := Prod.mk.inj (hf.symm.trans f)
                      exfalso; omega
                    · replace f := f.trans (if_neg c76)
                      obtain ⟨-, rfl⟩ := Prod.mk.inj (hf.symm.trans f)
                      exact hp
                  · replace f := f.trans (pf_call_eq ((nf_areChangesR (V := W) a1 a2 (a3 % 100)).2 c72))
                    replace f := f.trans (if_pos (by decide))
                    obtain ⟨-, rfl⟩ := Prod.mk.inj (hf.symm.trans f)
                    exact hp
          · replace e := e.trans (pf_call_eq ((nf_isBelief (V := V) (a3 % 100)).2 c37))
            replace e := e.trans (if_pos (by decide))
            by_cases c77 : (0 : Int) < W 90 16
            · replace e := e.trans (pf_call_eq ((nf_hasScene (V := V) hs).1 c77))
              replace e := e.trans (if_neg (by decide))
              obtain ⟨-, rfl⟩ := Prod.mk.inj (he.symm.trans e)
              have f := F_X12_person_eq a1 a2 a3 W
              by_cases c79 : a3 < 0
              · replace f := f.trans (if_pos c79)
                obtain ⟨-, rfl⟩ := Prod.mk.inj (hf.symm.trans f)
                exact hp
              · replace f := f.trans (if_neg c79)
                by_cases c80 : 3 < (a3 / 100)
                · replace f := f.trans (if_pos c80)
                  obtain ⟨-, rfl⟩ := Prod.mk.inj (hf.symm.trans f)
                  exact hp
                · replace f := f.trans (if_neg c80)
                  by_cases c81 : -30 ≤ a1 ∧ a1 ≤ 30 ∧ -30 ≤ a2 ∧ a2 ≤ 30 ∧ 0 ≤ (a3 % 100) ∧ (a3 % 100) ≤ 16
                  · replace f := f.trans (pf_call_eq ((nf_areChangesR (V := W) a1 a2 (a3 % 100)).1 c81))
                    replace f := f.trans (if_neg (by decide))
                    obtain ⟨u83, hu84⟩ : ∃ y, W 90 23 = y := ⟨_, rfl⟩
                    replace f := f.trans (pf_let_eq hu84)
                    by_cases c85 : ¬ (u83 = 10)
                    · replace f := f.trans (if_pos c85)
                      obtain ⟨-, rfl⟩ := Prod.mk.inj (hf.symm.trans f)
                      exfalso; omega
                    · replace f := f.trans (if_neg c85)
                      obtain ⟨-, rfl⟩ := Prod.mk.inj (hf.symm.trans f)
                      exact hp
                  · replace f := f.trans (pf_call_eq ((nf_areChangesR (V := W) a1 a2 (a3 % 100)).2 c81))
                    replace f := f.trans (if_pos (by decide))
                    obtain ⟨-, rfl⟩ := Prod.mk.inj (hf.symm.trans f)
                    exact hp
            · replace e := e.trans (pf_call_eq ((nf_hasScene (V := V) hs).2 c77))
              replace e := e.trans (if_pos (by decide))
              obtain ⟨-, rfl⟩ := Prod.mk.inj (he.symm.trans e)
              have f := F_X12_person_eq a1 a2 a3 W
              by_cases c86 : a3 < 0
              · replace f := f.trans (if_pos c86)
                obtain ⟨-, rfl⟩ := Prod.mk.inj (hf.symm.trans f)
                exact hp
              · replace f := f.trans (if_neg c86)
                by_cases c87 : 3 < (a3 / 100)
                · replace f := f.trans (if_pos c87)
                  obtain ⟨-, rfl⟩ := Prod.mk.inj (hf.symm.trans f)
                  exact hp
                · replace f := f.trans (if_neg c87)
                  by_cases c88 : -30 ≤ a1 ∧ a1 ≤ 30 ∧ -30 ≤ a2 ∧ a2 ≤ 30 ∧ 0 ≤ (a3 % 100) ∧ (a3 % 100) ≤ 16
                  · replace f := f.trans (pf_call_eq ((nf_areChangesR (V := W) a1 a2 (a3 % 100)).1 c88))
                    replace f := f.trans (if_neg (by decide))
                    obtain ⟨u90, hu91⟩ : ∃ y, W 90 23 = y := ⟨_, rfl⟩
                    replace f := f.trans (pf_let_eq hu91)
                    by_cases c92 : ¬ (u90 = 10)
                    · replace f := f.trans (if_pos c92)
                      obtain ⟨-, rfl⟩ := Prod.mk.inj (hf.symm.trans f)
                      exfalso; omega
                    · replace f := f.trans (if_neg c92)
                      obtain ⟨-, rfl⟩ := Prod.mk.inj (hf.symm.trans f)
                      exact hp
                  · replace f := f.trans (pf_call_eq ((nf_areChangesR (V := W) a1 a2 (a3 % 100)).2 c88))
                    replace f := f.trans (if_pos (by decide))
                    obtain ⟨-, rfl⟩ := Prod.mk.inj (hf.symm.trans f)
                    exact hp
    · replace e := e.trans (pf_call_eq ((nf_areChanges (V := V) a1 a2).2 c1))
      replace e := e.trans (if_pos (by decide))
      by_cases c93 : (0 : Int) < W 90 16
      · replace e := e.trans (pf_call_eq ((nf_hasScene (V := V) hs).1 c93))
        replace e := e.trans (if_neg (by decide))
        obtain ⟨-, rfl⟩ := Prod.mk.inj (he.symm.trans e)
        have f := F_X12_person_eq a1 a2 a3 W
        by_cases c95 : a3 < 0
        · replace f := f.trans (if_pos c95)
          obtain ⟨-, rfl⟩ := Prod.mk.inj (hf.symm.trans f)
          exact hp
        · replace f := f.trans (if_neg c95)
          by_cases c96 : 3 < (a3 / 100)
          · replace f := f.trans (if_pos c96)
            obtain ⟨-, rfl⟩ := Prod.mk.inj (hf.symm.trans f)
            exact hp
          · replace f := f.trans (if_neg c96)
            by_cases c97 : -30 ≤ a1 ∧ a1 ≤ 30 ∧ -30 ≤ a2 ∧ a2 ≤ 30 ∧ 0 ≤ (a3 % 100) ∧ (a3 % 100) ≤ 16
            · replace f := f.trans (pf_call_eq ((nf_areChangesR (V := W) a1 a2 (a3 % 100)).1 c97))
              replace f := f.trans (if_neg (by decide))
              obtain ⟨u99, hu100⟩ : ∃ y, W 90 23 = y := ⟨_, rfl⟩
              replace f := f.trans (pf_let_eq hu100)
              by_cases c101 : ¬ (u99 = 10)
              · replace f := f.trans (if_pos c101)
                obtain ⟨-, rfl⟩ := Prod.mk.inj (hf.symm.trans f)
                exfalso; omega
              · replace f := f.trans (if_neg c101)
                obtain ⟨-, rfl⟩ := Prod.mk.inj (hf.symm.trans f)
                exact hp
            · replace f := f.trans (pf_call_eq ((nf_areChangesR (V := W) a1 a2 (a3 % 100)).2 c97))
              replace f := f.trans (if_pos (by decide))
              obtain ⟨-, rfl⟩ := Prod.mk.inj (hf.symm.trans f)
              exact hp
      · replace e := e.trans (pf_call_eq ((nf_hasScene (V := V) hs).2 c93))
        replace e := e.trans (if_pos (by decide))
        obtain ⟨-, rfl⟩ := Prod.mk.inj (he.symm.trans e)
        have f := F_X12_person_eq a1 a2 a3 W
        by_cases c102 : a3 < 0
        · replace f := f.trans (if_pos c102)
          obtain ⟨-, rfl⟩ := Prod.mk.inj (hf.symm.trans f)
          exact hp
        · replace f := f.trans (if_neg c102)
          by_cases c103 : 3 < (a3 / 100)
          · replace f := f.trans (if_pos c103)
            obtain ⟨-, rfl⟩ := Prod.mk.inj (hf.symm.trans f)
            exact hp
          · replace f := f.trans (if_neg c103)
            by_cases c104 : -30 ≤ a1 ∧ a1 ≤ 30 ∧ -30 ≤ a2 ∧ a2 ≤ 30 ∧ 0 ≤ (a3 % 100) ∧ (a3 % 100) ≤ 16
            · replace f := f.trans (pf_call_eq ((nf_areChangesR (V := W) a1 a2 (a3 % 100)).1 c104))
              replace f := f.trans (if_neg (by decide))
              obtain ⟨u106, hu107⟩ : ∃ y, W 90 23 = y := ⟨_, rfl⟩
              replace f := f.trans (pf_let_eq hu107)
              by_cases c108 : ¬ (u106 = 10)
              · replace f := f.trans (if_pos c108)
                obtain ⟨-, rfl⟩ := Prod.mk.inj (hf.symm.trans f)
                exfalso; omega
              · replace f := f.trans (if_neg c108)
                obtain ⟨-, rfl⟩ := Prod.mk.inj (hf.symm.trans f)
                exact hp
            · replace f := f.trans (pf_call_eq ((nf_areChangesR (V := W) a1 a2 (a3 % 100)).2 c104))
              replace f := f.trans (if_pos (by decide))
              obtain ⟨-, rfl⟩ := Prod.mk.inj (hf.symm.trans f)
              exact hp
  · skip
    have e := F_X11_person_eq a1 a2 a3 V
    by_cases c1 : -30 ≤ a1 ∧ a1 ≤ 30 ∧ -30 ≤ a2 ∧ a2 ≤ 30
    · replace e := e.trans (pf_call_eq ((nf_areChanges (V := V) a1 a2).1 c1))
      replace e := e.trans (if_neg (by decide))
      by_cases c3 : a3 < 0
      · replace e := e.trans (if_pos c3)
        by_cases c4 : (0 : Int) < W 90 16
        · replace e := e.trans (pf_call_eq ((nf_hasScene (V := V) hs).1 c4))
          replace e := e.trans (if_neg (by decide))
          obtain ⟨-, rfl⟩ := Prod.mk.inj (he.symm.trans e)
          have f := F_X12_person_eq a1 a2 a3 W
          by_cases c6 : a3 < 0
          · replace f := f.trans (if_pos c6)
            obtain ⟨-, rfl⟩ := Prod.mk.inj (hf.symm.trans f)
            exact hp
          · replace f := f.trans (if_neg c6)
            by_cases c7 : 3 < (a3 / 100)
            · replace f := f.trans (if_pos c7)
              obtain ⟨-, rfl⟩ := Prod.mk.inj (hf.symm.trans f)
              exact hp
            · replace f := f.trans (if_neg c7)
              by_cases c8 : -30 ≤ a1 ∧ a1 ≤ 30 ∧ -30 ≤ a2 ∧ a2 ≤ 30 ∧ 0 ≤ (a3 % 100) ∧ (a3 % 100) ≤ 16
              · replace f := f.trans (pf_call_eq ((nf_areChangesR (V := W) a1 a2 (a3 % 100)).1 c8))
                replace f := f.trans (if_neg (by decide))
                obtain ⟨u10, hu11⟩ : ∃ y, W 90 23 = y := ⟨_, rfl⟩
                replace f := f.trans (pf_let_eq hu11)
                by_cases c12 : ¬ (u10 = 10)
                · replace f := f.trans (if_pos c12)
                  obtain ⟨-, rfl⟩ := Prod.mk.inj (hf.symm.trans f)
                  exfalso; omega
                · replace f := f.trans (if_neg c12)
                  obtain ⟨-, rfl⟩ := Prod.mk.inj (hf.symm.trans f)
                  exact hp
              · replace f := f.trans (pf_call_eq ((nf_areChangesR (V := W) a1 a2 (a3 % 100)).2 c8))
                replace f := f.trans (if_pos (by decide))
                obtain ⟨-, rfl⟩ := Prod.mk.inj (hf.symm.trans f)
                exact hp
        · replace e := e.trans (pf_call_eq ((nf_hasScene (V := V) hs).2 c4))
          replace e := e.trans (if_pos (by decide))
          obtain ⟨-, rfl⟩ := Prod.mk.inj (he.symm.trans e)
          have f := F_X12_person_eq a1 a2 a3 W
          by_cases c13 : a3 < 0
          · replace f := f.trans (if_pos c13)
            obtain ⟨-, rfl⟩ := Prod.mk.inj (hf.symm.trans f)
            exact hp
          · replace f := f.trans (if_neg c13)
            by_cases c14 : 3 < (a3 / 100)
            · replace f := f.trans (if_pos c14)
              obtain ⟨-, rfl⟩ := Prod.mk.inj (hf.symm.trans f)
              exact hp
            · replace f := f.trans (if_neg c14)
              by_cases c15 : -30 ≤ a1 ∧ a1 ≤ 30 ∧ -30 ≤ a2 ∧ a2 ≤ 30 ∧ 0 ≤ (a3 % 100) ∧ (a3 % 100) ≤ 16
              · replace f := f.trans (pf_call_eq ((nf_areChangesR (V := W) a1 a2 (a3 % 100)).1 c15))
                replace f := f.trans (if_neg (by decide))
                obtain ⟨u17, hu18⟩ : ∃ y, W 90 23 = y := ⟨_, rfl⟩
                replace f := f.trans (pf_let_eq hu18)
                by_cases c19 : ¬ (u17 = 10)
                · replace f := f.trans (if_pos c19)
                  obtain ⟨-, rfl⟩ := Prod.mk.inj (hf.symm.trans f)
                  exfalso; omega
                · replace f := f.trans (if_neg c19)
                  obtain ⟨-, rfl⟩ := Prod.mk.inj (hf.symm.trans f)
                  exact hp
              · replace f := f.trans (pf_call_eq ((nf_areChangesR (V := W) a1 a2 (a3 % 100)).2 c15))
                replace f := f.trans (if_pos (by decide))
                obtain ⟨-, rfl⟩ := Prod.mk.inj (hf.symm.trans f)
                exact hp
      · replace e := e.trans (if_neg c3)
        by_cases c20 : 3 < (a3 / 100)
        · replace e := e.trans (if_pos c20)
          by_cases c21 : (0 : Int) < W 90 16
          · replace e := e.trans (pf_call_eq ((nf_hasScene (V := V) hs).1 c21))
            replace e := e.trans (if_neg (by decide))
            obtain ⟨-, rfl⟩ := Prod.mk.inj (he.symm.trans e)
            have f := F_X12_person_eq a1 a2 a3 W
            by_cases c23 : a3 < 0
            · replace f := f.trans (if_pos c23)
              obtain ⟨-, rfl⟩ := Prod.mk.inj (hf.symm.trans f)
              exact hp
            · replace f := f.trans (if_neg c23)
              by_cases c24 : 3 < (a3 / 100)
              · replace f := f.trans (if_pos c24)
                obtain ⟨-, rfl⟩ := Prod.mk.inj (hf.symm.trans f)
                exact hp
              · replace f := f.trans (if_neg c24)
                by_cases c25 : -30 ≤ a1 ∧ a1 ≤ 30 ∧ -30 ≤ a2 ∧ a2 ≤ 30 ∧ 0 ≤ (a3 % 100) ∧ (a3 % 100) ≤ 16
                · replace f := f.trans (pf_call_eq ((nf_areChangesR (V := W) a1 a2 (a3 % 100)).1 c25))
                  replace f := f.trans (if_neg (by decide))
                  obtain ⟨u27, hu28⟩ : ∃ y, W 90 23 = y := ⟨_, rfl⟩
                  replace f := f.trans (pf_let_eq hu28)
                  by_cases c29 : ¬ (u27 = 10)
                  · replace f := f.trans (if_pos c29)
                    obtain ⟨-, rfl⟩ := Prod.mk.inj (hf.symm.trans f)
                    exfalso; omega
                  · replace f := f.trans (if_neg c29)
                    obtain ⟨-, rfl⟩ := Prod.mk.inj (hf.symm.trans f)
                    exact hp
                · replace f := f.trans (pf_call_eq ((nf_areChangesR (V := W) a1 a2 (a3 % 100)).2 c25))
                  replace f := f.trans (if_pos (by decide))
                  obtain ⟨-, rfl⟩ := Prod.mk.inj (hf.symm.trans f)
                  exact hp
          · replace e := e.trans (pf_call_eq ((nf_hasScene (V := V) hs).2 c21))
            replace e := e.trans (if_pos (by decide))
            obtain ⟨-, rfl⟩ := Prod.mk.inj (he.symm.trans e)
            have f := F_X12_person_eq a1 a2 a3 W
            by_cases c30 : a3 < 0
            · replace f := f.trans (if_pos c30)
              obtain ⟨-, rfl⟩ := Prod.mk.inj (hf.symm.trans f)
              exact hp
            · replace f := f.trans (if_neg c30)
              by_cases c31 : 3 < (a3 / 100)
              · replace f := f.trans (if_pos c31)
                obtain ⟨-, rfl⟩ := Prod.mk.inj (hf.symm.trans f)
                exact hp
              · replace f := f.trans (if_neg c31)
                by_cases c32 : -30 ≤ a1 ∧ a1 ≤ 30 ∧ -30 ≤ a2 ∧ a2 ≤ 30 ∧ 0 ≤ (a3 % 100) ∧ (a3 % 100) ≤ 16
                · replace f := f.trans (pf_call_eq ((nf_areChangesR (V := W) a1 a2 (a3 % 100)).1 c32))
                  replace f := f.trans (if_neg (by decide))
                  obtain ⟨u34, hu35⟩ : ∃ y, W 90 23 = y := ⟨_, rfl⟩
                  replace f := f.trans (pf_let_eq hu35)
                  by_cases c36 : ¬ (u34 = 10)
                  · replace f := f.trans (if_pos c36)
                    obtain ⟨-, rfl⟩ := Prod.mk.inj (hf.symm.trans f)
                    exfalso; omega
                  · replace f := f.trans (if_neg c36)
                    obtain ⟨-, rfl⟩ := Prod.mk.inj (hf.symm.trans f)
                    exact hp
                · replace f := f.trans (pf_call_eq ((nf_areChangesR (V := W) a1 a2 (a3 % 100)).2 c32))
                  replace f := f.trans (if_pos (by decide))
                  obtain ⟨-, rfl⟩ := Prod.mk.inj (hf.symm.trans f)
                  exact hp
        · replace e := e.trans (if_neg c20)
          by_cases c37 : 0 ≤ (a3 % 100) ∧ (a3 % 100) ≤ 16
          · replace e := e.trans (pf_call_eq ((nf_isBelief (V := V) (a3 % 100)).1 c37))
            replace e := e.trans (if_neg (by decide))
            by_cases c39 : (0 : Int) < W 90 16
            · replace e := e.trans (pf_call_eq ((nf_hasScene (V := V) hs).1 c39))
              replace e := e.trans (if_neg (by decide))
              obtain ⟨u41, hu42⟩ : ∃ y, V 4 1 = y := ⟨_, rfl⟩
              replace e := e.trans (pf_let_eq hu42)
              by_cases c43 : u41 < 10
              · replace e := e.trans (if_pos c43)
                have q44 := F_X7_addPerson_eq a1 a2 (a3 % 100) (a3 / 100) V
                obtain ⟨u45, hu46⟩ : ∃ y, V 4 1 = y := ⟨_, rfl⟩
                replace q44 := q44.trans (pf_let_eq hu46)
                by_cases c47 : u45 < 10
                · replace q44 := q44.trans (if_pos c47)
                  have q48 := F_X7_changePerson_eq u45 a1 a2 (a3 % 100) (pm_up V 8 (u45 : Int).toNat (a3 / 100))
                  replace q44 := q44.trans (pf_call_eq q48)
                  replace e := e.trans (pf_call_eq q44)
                  obtain ⟨-, rfl⟩ := Prod.mk.inj (he.symm.trans e)
                  have f := F_X12_person_eq a1 a2 a3 W
                  by_cases c49 : a3 < 0
                  · replace f := f.trans (if_pos c49)
                    obtain ⟨-, rfl⟩ := Prod.mk.inj (hf.symm.trans f)
                    exfalso; omega
                  · replace f := f.trans (if_neg c49)
                    by_cases c50 : 3 < (a3 / 100)
                    · replace f := f.trans (if_pos c50)
                      obtain ⟨-, rfl⟩ := Prod.mk.inj (hf.symm.trans f)
                      exfalso; omega
                    · replace f := f.trans (if_neg c50)
                      by_cases c51 : -30 ≤ a1 ∧ a1 ≤ 30 ∧ -30 ≤ a2 ∧ a2 ≤ 30 ∧ 0 ≤ (a3 % 100) ∧ (a3 % 100) ≤ 16
                      · replace f := f.trans (pf_call_eq ((nf_areChangesR (V := W) a1 a2 (a3 % 100)).1 c51))
                        replace f := f.trans (if_neg (by decide))
                        obtain ⟨u53, hu54⟩ : ∃ y, W 90 23 = y := ⟨_, rfl⟩
                        replace f := f.trans (pf_let_eq hu54)
                        by_cases c55 : ¬ (u53 = 10)
                        · replace f := f.trans (if_pos c55)
                          obtain ⟨-, rfl⟩ := Prod.mk.inj (hf.symm.trans f)
                          first | (exfalso; omega) | exact hp.add (by assumption) (by omega) (by omega) (by omega)
                        · replace f := f.trans (if_neg c55)
                          obtain ⟨-, rfl⟩ := Prod.mk.inj (hf.symm.trans f)
                          exfalso; omega
                      · replace f := f.trans (pf_call_eq ((nf_areChangesR (V := W) a1 a2 (a3 % 100)).2 c51))
                        replace f := f.trans (if_pos (by decide))
                        obtain ⟨-, rfl⟩ := Prod.mk.inj (hf.symm.trans f)
                        exfalso; omega
                · replace q44 := q44.trans (if_neg c47)
                  replace e := e.trans (pf_call_eq q44)
                  obtain ⟨-, rfl⟩ := Prod.mk.inj (he.symm.trans e)
                  have f := F_X12_person_eq a1 a2 a3 W
                  by_cases c56 : a3 < 0
                  · replace f := f.trans (if_pos c56)
                    obtain ⟨-, rfl⟩ := Prod.mk.inj (hf.symm.trans f)
                    exact hp
                  · replace f := f.trans (if_neg c56)
                    by_cases c57 : 3 < (a3 / 100)
                    · replace f := f.trans (if_pos c57)
                      obtain ⟨-, rfl⟩ := Prod.mk.inj (hf.symm.trans f)
                      exact hp
                    · replace f := f.trans (if_neg c57)
                      by_cases c58 : -30 ≤ a1 ∧ a1 ≤ 30 ∧ -30 ≤ a2 ∧ a2 ≤ 30 ∧ 0 ≤ (a3 % 100) ∧ (a3 % 100) ≤ 16
                      · replace f := f.trans (pf_call_eq ((nf_areChangesR (V := W) a1 a2 (a3 % 100)).1 c58))
                        replace f := f.trans (if_neg (by decide))
                        obtain ⟨u60, hu61⟩ : ∃ y, W 90 23 = y := ⟨_, rfl⟩
                        replace f := f.trans (pf_let_eq hu61)
                        by_cases c62 : ¬ (u60 = 10)
                        · replace f := f.trans (if_pos c62)
                          obtain ⟨-, rfl⟩ := Prod.mk.inj (hf.symm.trans f)
                          exfalso; omega
                        · replace f := f.trans (if_neg c62)
                          obtain ⟨-, rfl⟩ := Prod.mk.inj (hf.symm.trans f)
                          exact hp
                      · replace f := f.trans (pf_call_eq ((nf_areChangesR (V := W) a1 a2 (a3 % 100)).2 c58))
                        replace f := f.trans (if_pos (by decide))
                        obtain ⟨-, rfl⟩ := Prod.mk.inj (hf.symm.trans f)
                        exact hp
              · replace e := e.trans (if_neg c43)
                obtain ⟨-, rfl⟩ := Prod.mk.inj (he.symm.trans e)
                have f := F_X12_person_eq a1 a2 a3 W
                by_cases c63 : a3 < 0
                · replace f := f.trans (if_pos c63)
                  obtain ⟨-, rfl⟩ := Prod.mk.inj (hf.symm.trans f)
                  exact hp
                · replace f := f.trans (if_neg c63)
                  by_cases c64 : 3 < (a3 / 100)
                  · replace f := f.trans (if_pos c64)
                    obtain ⟨-, rfl⟩ := Prod.mk.inj (hf.symm.trans f)
                    exact hp
                  · replace f := f.trans (if_neg c64)
                    by_cases c65 : -30 ≤ a1 ∧ a1 ≤ 30 ∧ -30 ≤ a2 ∧ a2 ≤ 30 ∧ 0 ≤ (a3 % 100) ∧ (a3 % 100) ≤ 16
                    · replace f := f.trans (pf_call_eq ((nf_areChangesR (V := W) a1 a2 (a3 % 100)).1 c65))
                      replace f := f.trans (if_neg (by decide))
                      obtain ⟨u67, hu68⟩ : ∃ y, W 90 23 = y := ⟨_, rfl⟩
                      replace f := f.trans (pf_let_eq hu68)
                      by_cases c69 : ¬ (u67 = 10)
                      · replace f := f.trans (if_pos c69)
                        obtain ⟨-, rfl⟩ := Prod.mk.inj (hf.symm.trans f)
                        exfalso; omega
                      · replace f := f.trans (if_neg c69)
                        obtain ⟨-, rfl⟩ := Prod.mk.inj (hf.symm.trans f)
                        exact hp
                    · replace f := f.trans (pf_call_eq ((nf_areChangesR (V := W) a1 a2 (a3 % 100)).2 c65))
                      replace f := f.trans (if_pos (by decide))
                      obtain ⟨-, rfl⟩ := Prod.mk.inj (hf.symm.trans f)
                      exact hp
            · replace e := e.trans (pf_call_eq ((nf_hasScene (V := V) hs).2 c39))
              replace e := e.trans (if_pos (by decide))
              obtain ⟨-, rfl⟩ := Prod.mk.inj (he.symm.trans e)
              have f := F_X12_person_eq a1 a2 a3 W
              by_cases c70 : a3 < 0
              · replace f := f.trans (if_pos c70)
                obtain ⟨-, rfl⟩ := Prod.mk.inj (hf.symm.trans f)
                exact hp
              · replace f := f.trans (if_neg c70)
                by_cases c71 : 3 < (a3 / 100)
                · replace f := f.trans (if_pos c71)
                  obtain ⟨-, rfl⟩ := Prod.mk.inj (hf.symm.trans f)
                  exact hp
                · replace f := f.trans (if_neg c71)
                  by_cases c72 : -30 ≤ a1 ∧ a1 ≤ 30 ∧ -30 ≤ a2 ∧ a2 ≤ 30 ∧ 0 ≤ (a3 % 100) ∧ (a3 % 100) ≤ 16
                  · replace f := f.trans (pf_call_eq ((nf_areChangesR (V := W) a1 a2 (a3 % 100)).1 c72))
                    replace f := f.trans (if_neg (by decide))
                    obtain ⟨u74, hu75⟩ : ∃ y, W 90 23 = y := ⟨_, rfl⟩
                    replace f := f.trans (pf_let_eq hu75)
                    by_cases c76 : ¬ (u74 = 10)
                    · replace f := f.trans (if_pos c76)
                      obtain ⟨-, rfl⟩ := Prod.mk.inj (hf.symm.trans f)
                      exfalso; omega
                    · replace f := f.trans (if_neg c76)
                      obtain ⟨-, rfl⟩ := Prod.mk.inj (hf.symm.trans f)
                      exact hp
                  · replace f := f.trans (pf_call_eq ((nf_areChangesR (V := W) a1 a2 (a3 % 100)).2 c72))
                    replace f := f.trans (if_pos (by decide))
                    obtain ⟨-, rfl⟩ := Prod.mk.inj (hf.symm.trans f)
                    exact hp
          · replace e := e.trans (pf_call_eq ((nf_isBelief (V := V) (a3 % 100)).2 c37))
            replace e := e.trans (if_pos (by decide))
            by_cases c77 : (0 : Int) < W 90 16
            · replace e := e.trans (pf_call_eq ((nf_hasScene (V := V) hs).1 c77))
              replace e := e.trans (if_neg (by decide))
              obtain ⟨-, rfl⟩ := Prod.mk.inj (he.symm.trans e)
              have f := F_X12_person_eq a1 a2 a3 W
              by_cases c79 : a3 < 0
              · replace f := f.trans (if_pos c79)
                obtain ⟨-, rfl⟩ := Prod.mk.inj (hf.symm.trans f)
                exact hp
              · replace f := f.trans (if_neg c79)
                by_cases c80 : 3 < (a3 / 100)
                · replace f := f.trans (if_pos c80)
                  obtain ⟨-, rfl⟩ := Prod.mk.inj (hf.symm.trans f)
                  exact hp
                · replace f := f.trans (if_neg c80)
                  by_cases c81 : -30 ≤ a1 ∧ a1 ≤ 30 ∧ -30 ≤ a2 ∧ a2 ≤ 30 ∧ 0 ≤ (a3 % 100) ∧ (a3 % 100) ≤ 16
                  · replace f := f.trans (pf_call_eq ((nf_areChangesR (V := W) a1 a2 (a3 % 100)).1 c81))
                    replace f := f.trans (if_neg (by decide))
                    obtain ⟨u83, hu84⟩ : ∃ y, W 90 23 = y := ⟨_, rfl⟩
                    replace f := f.trans (pf_let_eq hu84)
                    by_cases c85 : ¬ (u83 = 10)
                    · replace f := f.trans (if_pos c85)
                      obtain ⟨-, rfl⟩ := Prod.mk.inj (hf.symm.trans f)
                      exfalso; omega
                    · replace f := f.trans (if_neg c85)
                      obtain ⟨-, rfl⟩ := Prod.mk.inj (hf.symm.trans f)
                      exact hp
                  · replace f := f.trans (pf_call_eq ((nf_areChangesR (V := W) a1 a2 (a3 % 100)).2 c81))
                    replace f := f.trans (if_pos (by decide))
                    obtain ⟨-, rfl⟩ := Prod.mk.inj (hf.symm.trans f)
                    exact hp
            · replace e := e.trans (pf_call_eq ((nf_hasScene (V := V) hs).2 c77))
              replace e := e.trans (if_pos (by decide))
              obtain ⟨-, rfl⟩ := Prod.mk.inj (he.symm.trans e)
              have f := F_X12_person_eq a1 a2 a3 W
              by_cases c86 : a3 < 0
              · replace f := f.trans (if_pos c86)
                obtain ⟨-, rfl⟩ := Prod.mk.inj (hf.symm.trans f)
                exact hp
              · replace f := f.trans (if_neg c86)
                by_cases c87 : 3 < (a3 / 100)
                · replace f := f.trans (if_pos c87)
                  obtain ⟨-, rfl⟩ := Prod.mk.inj (hf.symm.trans f)
                  exact hp
                · replace f := f.trans (if_neg c87)
                  by_cases c88 : -30 ≤ a1 ∧ a1 ≤ 30 ∧ -30 ≤ a2 ∧ a2 ≤ 30 ∧ 0 ≤ (a3 % 100) ∧ (a3 % 100) ≤ 16
                  · replace f := f.trans (pf_call_eq ((nf_areChangesR (V := W) a1 a2 (a3 % 100)).1 c88))
                    replace f := f.trans (if_neg (by decide))
                    obtain ⟨u90, hu91⟩ : ∃ y, W 90 23 = y := ⟨_, rfl⟩
                    replace f := f.trans (pf_let_eq hu91)
                    by_cases c92 : ¬ (u90 = 10)
                    · replace f := f.trans (if_pos c92)
                      obtain ⟨-, rfl⟩ := Prod.mk.inj (hf.symm.trans f)
                      exfalso; omega
                    · replace f := f.trans (if_neg c92)
                      obtain ⟨-, rfl⟩ := Prod.mk.inj (hf.symm.trans f)
                      exact hp
                  · replace f := f.trans (pf_call_eq ((nf_areChangesR (V := W) a1 a2 (a3 % 100)).2 c88))
                    replace f := f.trans (if_pos (by decide))
                    obtain ⟨-, rfl⟩ := Prod.mk.inj (hf.symm.trans f)
                    exact hp
    · replace e := e.trans (pf_call_eq ((nf_areChanges (V := V) a1 a2).2 c1))
      replace e := e.trans (if_pos (by decide))
      by_cases c93 : (0 : Int) < W 90 16
      · replace e := e.trans (pf_call_eq ((nf_hasScene (V := V) hs).1 c93))
        replace e := e.trans (if_neg (by decide))
        obtain ⟨-, rfl⟩ := Prod.mk.inj (he.symm.trans e)
        have f := F_X12_person_eq a1 a2 a3 W
        by_cases c95 : a3 < 0
        · replace f := f.trans (if_pos c95)
          obtain ⟨-, rfl⟩ := Prod.mk.inj (hf.symm.trans f)
          exact hp
        · replace f := f.trans (if_neg c95)
          by_cases c96 : 3 < (a3 / 100)
          · replace f := f.trans (if_pos c96)
            obtain ⟨-, rfl⟩ := Prod.mk.inj (hf.symm.trans f)
            exact hp
          · replace f := f.trans (if_neg c96)
            by_cases c97 : -30 ≤ a1 ∧ a1 ≤ 30 ∧ -30 ≤ a2 ∧ a2 ≤ 30 ∧ 0 ≤ (a3 % 100) ∧ (a3 % 100) ≤ 16
            · replace f := f.trans (pf_call_eq ((nf_areChangesR (V := W) a1 a2 (a3 % 100)).1 c97))
              replace f := f.trans (if_neg (by decide))
              obtain ⟨u99, hu100⟩ : ∃ y, W 90 23 = y := ⟨_, rfl⟩
              replace f := f.trans (pf_let_eq hu100)
              by_cases c101 : ¬ (u99 = 10)
              · replace f := f.trans (if_pos c101)
                obtain ⟨-, rfl⟩ := Prod.mk.inj (hf.symm.trans f)
                exfalso; omega
              · replace f := f.trans (if_neg c101)
                obtain ⟨-, rfl⟩ := Prod.mk.inj (hf.symm.trans f)
                exact hp
            · replace f := f.trans (pf_call_eq ((nf_areChangesR (V := W) a1 a2 (a3 % 100)).2 c97))
              replace f := f.trans (if_pos (by decide))
              obtain ⟨-, rfl⟩ := Prod.mk.inj (hf.symm.trans f)
              exact hp
      · replace e := e.trans (pf_call_eq ((nf_hasScene (V := V) hs).2 c93))
        replace e := e.trans (if_pos (by decide))
        obtain ⟨-, rfl⟩ := Prod.mk.inj (he.symm.trans e)
        have f := F_X12_person_eq a1 a2 a3 W
        by_cases c102 : a3 < 0
        · replace f := f.trans (if_pos c102)
          obtain ⟨-, rfl⟩ := Prod.mk.inj (hf.symm.trans f)
          exact hp
        · replace f := f.trans (if_neg c102)
          by_cases c103 : 3 < (a3 / 100)
          · replace f := f.trans (if_pos c103)
            obtain ⟨-, rfl⟩ := Prod.mk.inj (hf.symm.trans f)
            exact hp
          · replace f := f.trans (if_neg c103)
            by_cases c104 : -30 ≤ a1 ∧ a1 ≤ 30 ∧ -30 ≤ a2 ∧ a2 ≤ 30 ∧ 0 ≤ (a3 % 100) ∧ (a3 % 100) ≤ 16
            · replace f := f.trans (pf_call_eq ((nf_areChangesR (V := W) a1 a2 (a3 % 100)).1 c104))
              replace f := f.trans (if_neg (by decide))
              obtain ⟨u106, hu107⟩ : ∃ y, W 90 23 = y := ⟨_, rfl⟩
              replace f := f.trans (pf_let_eq hu107)
              by_cases c108 : ¬ (u106 = 10)
              · replace f := f.trans (if_pos c108)
                obtain ⟨-, rfl⟩ := Prod.mk.inj (hf.symm.trans f)
                exfalso; omega
              · replace f := f.trans (if_neg c108)
                obtain ⟨-, rfl⟩ := Prod.mk.inj (hf.symm.trans f)
                exact hp
            · replace f := f.trans (pf_call_eq ((nf_areChangesR (V := W) a1 a2 (a3 % 100)).2 c104))
              replace f := f.trans (if_pos (by decide))
              obtain ⟨-, rfl⟩ := Prod.mk.inj (hf.symm.trans f)
              exact hp
set_option maxHeartbeats 40000000 in
theorem mP_becomes {V W V1 W1 : pm_M} {y y2 : Int} (hq : rq V W) (hp : rp V W) (a1 a2 a3 a4 : Int) (he : F_X11_becomes a1 a2 a3 a4 V = (y, V1)) (hf : F_X12_becomes a1 a2 a3 a4 W = (y2, W1)) : rp V1 W1 := by
  have hs := hq.hs
  obtain ⟨h1, h2, h3, h4, h5, h6, h7⟩ := hq
  have e := F_X11_becomes_eq a1 a2 a3 a4 V
  by_cases c1 : 0 ≤ a1 ∧ a1 < V 4 1
  · replace e := e.trans (pf_call_eq ((nf_isPerson (V := V) a1).1 c1))
    replace e := e.trans (if_neg (by decide))
    by_cases c3 : -30 ≤ a2 ∧ a2 ≤ 30 ∧ -30 ≤ a3 ∧ a3 ≤ 30
    · replace e := e.trans (pf_call_eq ((nf_areChanges (V := V) a2 a3).1 c3))
      replace e := e.trans (if_neg (by decide))
      by_cases c5 : 0 ≤ a4 ∧ a4 ≤ 16
      · replace e := e.trans (pf_call_eq ((nf_isBelief (V := V) a4).1 c5))
        replace e := e.trans (if_pos (by decide))
        have q7 := F_X7_changePerson_eq a1 a2 a3 a4 V
        replace e := e.trans (pf_call_eq q7)
        obtain ⟨-, rfl⟩ := Prod.mk.inj (he.symm.trans e)
        have f := F_X12_becomes_eq a1 a2 a3 a4 W
        by_cases c8 : 0 ≤ a1 ∧ a1 < W 90 23
        · replace f := f.trans (pf_call_eq ((nf_isPersonR (V := W) a1).1 c8))
          replace f := f.trans (if_neg (by decide))
          by_cases c10 : -30 ≤ a2 ∧ a2 ≤ 30 ∧ -30 ≤ a3 ∧ a3 ≤ 30 ∧ 0 ≤ a4 ∧ a4 ≤ 16
          · replace f := f.trans (pf_call_eq ((nf_areChangesR (V := W) a2 a3 a4).1 c10))
            replace f := f.trans (if_pos (by decide))
            obtain ⟨-, rfl⟩ := Prod.mk.inj (hf.symm.trans f)
            first | (exfalso; omega) | exact hp.ch (by omega)
          · replace f := f.trans (pf_call_eq ((nf_areChangesR (V := W) a2 a3 a4).2 c10))
            replace f := f.trans (if_neg (by decide))
            obtain ⟨-, rfl⟩ := Prod.mk.inj (hf.symm.trans f)
            exfalso; omega
        · replace f := f.trans (pf_call_eq ((nf_isPersonR (V := W) a1).2 c8))
          replace f := f.trans (if_pos (by decide))
          obtain ⟨-, rfl⟩ := Prod.mk.inj (hf.symm.trans f)
          exfalso; omega
      · replace e := e.trans (pf_call_eq ((nf_isBelief (V := V) a4).2 c5))
        replace e := e.trans (if_neg (by decide))
        obtain ⟨-, rfl⟩ := Prod.mk.inj (he.symm.trans e)
        have f := F_X12_becomes_eq a1 a2 a3 a4 W
        by_cases c12 : 0 ≤ a1 ∧ a1 < W 90 23
        · replace f := f.trans (pf_call_eq ((nf_isPersonR (V := W) a1).1 c12))
          replace f := f.trans (if_neg (by decide))
          by_cases c14 : -30 ≤ a2 ∧ a2 ≤ 30 ∧ -30 ≤ a3 ∧ a3 ≤ 30 ∧ 0 ≤ a4 ∧ a4 ≤ 16
          · replace f := f.trans (pf_call_eq ((nf_areChangesR (V := W) a2 a3 a4).1 c14))
            replace f := f.trans (if_pos (by decide))
            obtain ⟨-, rfl⟩ := Prod.mk.inj (hf.symm.trans f)
            exfalso; omega
          · replace f := f.trans (pf_call_eq ((nf_areChangesR (V := W) a2 a3 a4).2 c14))
            replace f := f.trans (if_neg (by decide))
            obtain ⟨-, rfl⟩ := Prod.mk.inj (hf.symm.trans f)
            exact hp
        · replace f := f.trans (pf_call_eq ((nf_isPersonR (V := W) a1).2 c12))
          replace f := f.trans (if_pos (by decide))
          obtain ⟨-, rfl⟩ := Prod.mk.inj (hf.symm.trans f)
          exact hp
    · replace e := e.trans (pf_call_eq ((nf_areChanges (V := V) a2 a3).2 c3))
      replace e := e.trans (if_pos (by decide))
      obtain ⟨-, rfl⟩ := Prod.mk.inj (he.symm.trans e)
      have f := F_X12_becomes_eq a1 a2 a3 a4 W
      by_cases c16 : 0 ≤ a1 ∧ a1 < W 90 23
      · replace f := f.trans (pf_call_eq ((nf_isPersonR (V := W) a1).1 c16))
        replace f := f.trans (if_neg (by decide))
        by_cases c18 : -30 ≤ a2 ∧ a2 ≤ 30 ∧ -30 ≤ a3 ∧ a3 ≤ 30 ∧ 0 ≤ a4 ∧ a4 ≤ 16
        · replace f := f.trans (pf_call_eq ((nf_areChangesR (V := W) a2 a3 a4).1 c18))
          replace f := f.trans (if_pos (by decide))
          obtain ⟨-, rfl⟩ := Prod.mk.inj (hf.symm.trans f)
          exfalso; omega
        · replace f := f.trans (pf_call_eq ((nf_areChangesR (V := W) a2 a3 a4).2 c18))
          replace f := f.trans (if_neg (by decide))
          obtain ⟨-, rfl⟩ := Prod.mk.inj (hf.symm.trans f)
          exact hp
      · replace f := f.trans (pf_call_eq ((nf_isPersonR (V := W) a1).2 c16))
        replace f := f.trans (if_pos (by decide))
        obtain ⟨-, rfl⟩ := Prod.mk.inj (hf.symm.trans f)
        exact hp
  · replace e := e.trans (pf_call_eq ((nf_isPerson (V := V) a1).2 c1))
    replace e := e.trans (if_pos (by decide))
    obtain ⟨-, rfl⟩ := Prod.mk.inj (he.symm.trans e)
    have f := F_X12_becomes_eq a1 a2 a3 a4 W
    by_cases c20 : 0 ≤ a1 ∧ a1 < W 90 23
    · replace f := f.trans (pf_call_eq ((nf_isPersonR (V := W) a1).1 c20))
      replace f := f.trans (if_neg (by decide))
      by_cases c22 : -30 ≤ a2 ∧ a2 ≤ 30 ∧ -30 ≤ a3 ∧ a3 ≤ 30 ∧ 0 ≤ a4 ∧ a4 ≤ 16
      · replace f := f.trans (pf_call_eq ((nf_areChangesR (V := W) a2 a3 a4).1 c22))
        replace f := f.trans (if_pos (by decide))
        obtain ⟨-, rfl⟩ := Prod.mk.inj (hf.symm.trans f)
        exfalso; omega
      · replace f := f.trans (pf_call_eq ((nf_areChangesR (V := W) a2 a3 a4).2 c22))
        replace f := f.trans (if_neg (by decide))
        obtain ⟨-, rfl⟩ := Prod.mk.inj (hf.symm.trans f)
        exact hp
    · replace f := f.trans (pf_call_eq ((nf_isPersonR (V := W) a1).2 c20))
      replace f := f.trans (if_pos (by decide))
      obtain ⟨-, rfl⟩ := Prod.mk.inj (hf.symm.trans f)
      exact hp
set_option maxHeartbeats 40000000 in
theorem mB_who {V W : pm_M} (hq : rq V W) (hp : rp V W) (a1 a2 : Int) : ∃ y V1 W1, F_X11_who a1 a2 V = (y, V1) ∧ F_X12_who a1 a2 W = (y, W1) ∧ True := by
  obtain ⟨h1, h2, h3, h4, h5, h6, h7⟩ := hq
  have e := F_X11_who_eq a1 a2 V
  by_cases c1 : 0 ≤ a1 ∧ a1 < V 4 1
  · replace e := e.trans (pf_call_eq ((nf_isPerson (V := V) a1).1 c1))
    replace e := e.trans (if_pos (by decide))
    by_cases c3 : a2 < 0 ∨ 3 < a2
    · replace e := e.trans (if_pos c3)
      have f := F_X12_who_eq a1 a2 W
      by_cases c4 : 0 ≤ a1 ∧ a1 < W 90 23
      · replace f := f.trans (pf_call_eq ((nf_isPersonR (V := W) a1).1 c4))
        replace f := f.trans (if_neg (by decide))
        by_cases c6 : 0 ≤ a2 ∧ a2 ≤ 3
        · replace f := f.trans (pf_call_eq ((nf_in (V := W) a2 0 3).1 c6))
          replace f := f.trans (if_neg (by decide))
          obtain ⟨u8, hu9⟩ : ∃ y, W 100 (((4 * a1) + a2) : Int).toNat = y := ⟨_, rfl⟩
          replace f := f.trans (pf_let_eq hu9)
          first | (exfalso; omega)
        · replace f := f.trans (pf_call_eq ((nf_in (V := W) a2 0 3).2 c6))
          replace f := f.trans (if_pos (by decide))
          exact ⟨_, V, W, e, f, trivial⟩
      · replace f := f.trans (pf_call_eq ((nf_isPersonR (V := W) a1).2 c4))
        replace f := f.trans (if_pos (by decide))
        exact ⟨_, V, W, e, f, trivial⟩
    · replace e := e.trans (if_neg c3)
      by_cases c10 : a2 = 0
      · replace e := e.trans (if_pos c10)
        obtain ⟨u11, hu12⟩ : ∃ y, V 5 (a1 : Int).toNat = y := ⟨_, rfl⟩
        replace e := e.trans (pf_let_eq hu12)
        have f := F_X12_who_eq a1 a2 W
        by_cases c13 : 0 ≤ a1 ∧ a1 < W 90 23
        · replace f := f.trans (pf_call_eq ((nf_isPersonR (V := W) a1).1 c13))
          replace f := f.trans (if_neg (by decide))
          by_cases c15 : 0 ≤ a2 ∧ a2 ≤ 3
          · replace f := f.trans (pf_call_eq ((nf_in (V := W) a2 0 3).1 c15))
            replace f := f.trans (if_neg (by decide))
            obtain ⟨u17, hu18⟩ : ∃ y, W 100 (((4 * a1) + a2) : Int).toNat = y := ⟨_, rfl⟩
            replace f := f.trans (pf_let_eq hu18)
            first | (exfalso; omega) | (have g : V 5 a1.toNat = W 100 (0 + (4 * a1.toNat + 0)) := hp.1 a1.toNat 0 (by omega) (by decide); rw [show (0 + (4 * a1.toNat + 0)) = ((4 * a1) + a2).toNat by omega] at g; exact ⟨_, V, W, e, f.trans (congrArg (fun z => (z, W)) (show u17 = u11 by omega)), trivial⟩)
          · replace f := f.trans (pf_call_eq ((nf_in (V := W) a2 0 3).2 c15))
            replace f := f.trans (if_pos (by decide))
            first | (exfalso; omega) | (have g : V 5 a1.toNat = W 100 (0 + (4 * a1.toNat + 0)) := hp.1 a1.toNat 0 (by omega) (by decide); rw [show (0 + (4 * a1.toNat + 0)) = ((4 * a1) + a2).toNat by omega] at g; exact ⟨_, V, W, e, f.trans (congrArg (fun z => (z, W)) (show (-2147483648) = u11 by omega)), trivial⟩)
        · replace f := f.trans (pf_call_eq ((nf_isPersonR (V := W) a1).2 c13))
          replace f := f.trans (if_pos (by decide))
          first | (exfalso; omega) | (have g : V 5 a1.toNat = W 100 (0 + (4 * a1.toNat + 0)) := hp.1 a1.toNat 0 (by omega) (by decide); rw [show (0 + (4 * a1.toNat + 0)) = ((4 * a1) + a2).toNat by omega] at g; exact ⟨_, V, W, e, f.trans (congrArg (fun z => (z, W)) (show (-2147483648) = u11 by omega)), trivial⟩)
      · replace e := e.trans (if_neg c10)
        by_cases c19 : a2 = 1
        · replace e := e.trans (if_pos c19)
          obtain ⟨u20, hu21⟩ : ∃ y, V 6 (a1 : Int).toNat = y := ⟨_, rfl⟩
          replace e := e.trans (pf_let_eq hu21)
          have f := F_X12_who_eq a1 a2 W
          by_cases c22 : 0 ≤ a1 ∧ a1 < W 90 23
          · replace f := f.trans (pf_call_eq ((nf_isPersonR (V := W) a1).1 c22))
            replace f := f.trans (if_neg (by decide))
            by_cases c24 : 0 ≤ a2 ∧ a2 ≤ 3
            · replace f := f.trans (pf_call_eq ((nf_in (V := W) a2 0 3).1 c24))
              replace f := f.trans (if_neg (by decide))
              obtain ⟨u26, hu27⟩ : ∃ y, W 100 (((4 * a1) + a2) : Int).toNat = y := ⟨_, rfl⟩
              replace f := f.trans (pf_let_eq hu27)
              first | (exfalso; omega) | (have g : V 6 a1.toNat = W 100 (0 + (4 * a1.toNat + 1)) := hp.1 a1.toNat 1 (by omega) (by decide); rw [show (0 + (4 * a1.toNat + 1)) = ((4 * a1) + a2).toNat by omega] at g; exact ⟨_, V, W, e, f.trans (congrArg (fun z => (z, W)) (show u26 = u20 by omega)), trivial⟩)
            · replace f := f.trans (pf_call_eq ((nf_in (V := W) a2 0 3).2 c24))
              replace f := f.trans (if_pos (by decide))
              first | (exfalso; omega) | (have g : V 6 a1.toNat = W 100 (0 + (4 * a1.toNat + 1)) := hp.1 a1.toNat 1 (by omega) (by decide); rw [show (0 + (4 * a1.toNat + 1)) = ((4 * a1) + a2).toNat by omega] at g; exact ⟨_, V, W, e, f.trans (congrArg (fun z => (z, W)) (show (-2147483648) = u20 by omega)), trivial⟩)
          · replace f := f.trans (pf_call_eq ((nf_isPersonR (V := W) a1).2 c22))
            replace f := f.trans (if_pos (by decide))
            first | (exfalso; omega) | (have g : V 6 a1.toNat = W 100 (0 + (4 * a1.toNat + 1)) := hp.1 a1.toNat 1 (by omega) (by decide); rw [show (0 + (4 * a1.toNat + 1)) = ((4 * a1) + a2).toNat by omega] at g; exact ⟨_, V, W, e, f.trans (congrArg (fun z => (z, W)) (show (-2147483648) = u20 by omega)), trivial⟩)
        · replace e := e.trans (if_neg c19)
          by_cases c28 : a2 = 2
          · replace e := e.trans (if_pos c28)
            obtain ⟨u29, hu30⟩ : ∃ y, V 7 (a1 : Int).toNat = y := ⟨_, rfl⟩
            replace e := e.trans (pf_let_eq hu30)
            have f := F_X12_who_eq a1 a2 W
            by_cases c31 : 0 ≤ a1 ∧ a1 < W 90 23
            · replace f := f.trans (pf_call_eq ((nf_isPersonR (V := W) a1).1 c31))
              replace f := f.trans (if_neg (by decide))
              by_cases c33 : 0 ≤ a2 ∧ a2 ≤ 3
              · replace f := f.trans (pf_call_eq ((nf_in (V := W) a2 0 3).1 c33))
                replace f := f.trans (if_neg (by decide))
                obtain ⟨u35, hu36⟩ : ∃ y, W 100 (((4 * a1) + a2) : Int).toNat = y := ⟨_, rfl⟩
                replace f := f.trans (pf_let_eq hu36)
                first | (exfalso; omega) | (have g : V 7 a1.toNat = W 100 (0 + (4 * a1.toNat + 2)) := hp.1 a1.toNat 2 (by omega) (by decide); rw [show (0 + (4 * a1.toNat + 2)) = ((4 * a1) + a2).toNat by omega] at g; exact ⟨_, V, W, e, f.trans (congrArg (fun z => (z, W)) (show u35 = u29 by omega)), trivial⟩)
              · replace f := f.trans (pf_call_eq ((nf_in (V := W) a2 0 3).2 c33))
                replace f := f.trans (if_pos (by decide))
                first | (exfalso; omega) | (have g : V 7 a1.toNat = W 100 (0 + (4 * a1.toNat + 2)) := hp.1 a1.toNat 2 (by omega) (by decide); rw [show (0 + (4 * a1.toNat + 2)) = ((4 * a1) + a2).toNat by omega] at g; exact ⟨_, V, W, e, f.trans (congrArg (fun z => (z, W)) (show (-2147483648) = u29 by omega)), trivial⟩)
            · replace f := f.trans (pf_call_eq ((nf_isPersonR (V := W) a1).2 c31))
              replace f := f.trans (if_pos (by decide))
              first | (exfalso; omega) | (have g : V 7 a1.toNat = W 100 (0 + (4 * a1.toNat + 2)) := hp.1 a1.toNat 2 (by omega) (by decide); rw [show (0 + (4 * a1.toNat + 2)) = ((4 * a1) + a2).toNat by omega] at g; exact ⟨_, V, W, e, f.trans (congrArg (fun z => (z, W)) (show (-2147483648) = u29 by omega)), trivial⟩)
          · replace e := e.trans (if_neg c28)
            by_cases c37 : a2 = 3
            · replace e := e.trans (if_pos c37)
              obtain ⟨u38, hu39⟩ : ∃ y, V 8 (a1 : Int).toNat = y := ⟨_, rfl⟩
              replace e := e.trans (pf_let_eq hu39)
              have f := F_X12_who_eq a1 a2 W
              by_cases c40 : 0 ≤ a1 ∧ a1 < W 90 23
              · replace f := f.trans (pf_call_eq ((nf_isPersonR (V := W) a1).1 c40))
                replace f := f.trans (if_neg (by decide))
                by_cases c42 : 0 ≤ a2 ∧ a2 ≤ 3
                · replace f := f.trans (pf_call_eq ((nf_in (V := W) a2 0 3).1 c42))
                  replace f := f.trans (if_neg (by decide))
                  obtain ⟨u44, hu45⟩ : ∃ y, W 100 (((4 * a1) + a2) : Int).toNat = y := ⟨_, rfl⟩
                  replace f := f.trans (pf_let_eq hu45)
                  first | (exfalso; omega) | (have g : V 8 a1.toNat = W 100 (0 + (4 * a1.toNat + 3)) := hp.1 a1.toNat 3 (by omega) (by decide); rw [show (0 + (4 * a1.toNat + 3)) = ((4 * a1) + a2).toNat by omega] at g; exact ⟨_, V, W, e, f.trans (congrArg (fun z => (z, W)) (show u44 = u38 by omega)), trivial⟩)
                · replace f := f.trans (pf_call_eq ((nf_in (V := W) a2 0 3).2 c42))
                  replace f := f.trans (if_pos (by decide))
                  first | (exfalso; omega) | (have g : V 8 a1.toNat = W 100 (0 + (4 * a1.toNat + 3)) := hp.1 a1.toNat 3 (by omega) (by decide); rw [show (0 + (4 * a1.toNat + 3)) = ((4 * a1) + a2).toNat by omega] at g; exact ⟨_, V, W, e, f.trans (congrArg (fun z => (z, W)) (show (-2147483648) = u38 by omega)), trivial⟩)
              · replace f := f.trans (pf_call_eq ((nf_isPersonR (V := W) a1).2 c40))
                replace f := f.trans (if_pos (by decide))
                first | (exfalso; omega) | (have g : V 8 a1.toNat = W 100 (0 + (4 * a1.toNat + 3)) := hp.1 a1.toNat 3 (by omega) (by decide); rw [show (0 + (4 * a1.toNat + 3)) = ((4 * a1) + a2).toNat by omega] at g; exact ⟨_, V, W, e, f.trans (congrArg (fun z => (z, W)) (show (-2147483648) = u38 by omega)), trivial⟩)
            · replace e := e.trans (if_neg c37)
              have f := F_X12_who_eq a1 a2 W
              by_cases c46 : 0 ≤ a1 ∧ a1 < W 90 23
              · replace f := f.trans (pf_call_eq ((nf_isPersonR (V := W) a1).1 c46))
                replace f := f.trans (if_neg (by decide))
                by_cases c48 : 0 ≤ a2 ∧ a2 ≤ 3
                · replace f := f.trans (pf_call_eq ((nf_in (V := W) a2 0 3).1 c48))
                  replace f := f.trans (if_neg (by decide))
                  obtain ⟨u50, hu51⟩ : ∃ y, W 100 (((4 * a1) + a2) : Int).toNat = y := ⟨_, rfl⟩
                  replace f := f.trans (pf_let_eq hu51)
                  first | (exfalso; omega)
                · replace f := f.trans (pf_call_eq ((nf_in (V := W) a2 0 3).2 c48))
                  replace f := f.trans (if_pos (by decide))
                  first | (exfalso; omega)
              · replace f := f.trans (pf_call_eq ((nf_isPersonR (V := W) a1).2 c46))
                replace f := f.trans (if_pos (by decide))
                first | (exfalso; omega)
  · replace e := e.trans (pf_call_eq ((nf_isPerson (V := V) a1).2 c1))
    replace e := e.trans (if_neg (by decide))
    have f := F_X12_who_eq a1 a2 W
    by_cases c52 : 0 ≤ a1 ∧ a1 < W 90 23
    · replace f := f.trans (pf_call_eq ((nf_isPersonR (V := W) a1).1 c52))
      replace f := f.trans (if_neg (by decide))
      by_cases c54 : 0 ≤ a2 ∧ a2 ≤ 3
      · replace f := f.trans (pf_call_eq ((nf_in (V := W) a2 0 3).1 c54))
        replace f := f.trans (if_neg (by decide))
        obtain ⟨u56, hu57⟩ : ∃ y, W 100 (((4 * a1) + a2) : Int).toNat = y := ⟨_, rfl⟩
        replace f := f.trans (pf_let_eq hu57)
        first | (exfalso; omega)
      · replace f := f.trans (pf_call_eq ((nf_in (V := W) a2 0 3).2 c54))
        replace f := f.trans (if_pos (by decide))
        exact ⟨_, V, W, e, f, trivial⟩
    · replace f := f.trans (pf_call_eq ((nf_isPersonR (V := W) a1).2 c52))
      replace f := f.trans (if_pos (by decide))
      exact ⟨_, V, W, e, f, trivial⟩
theorem mA_who {V : pm_M} (hs : (V 0 8 = 45 ∧ V 45 0 = 0) ∨ (V 0 8 = 51 ∧ V 51 0 = 0)) (h5 : V 4 1 = 0) (h6 : V 4 6 = 0) (i0 : V 15 0 = 0) (i1 : V 25 0 = 0) (i2 : V 35 0 = 0) (a1 a2 : Int) : F_X11_who a1 a2 V = ((-2147483648), V) := by
  have e := F_X11_who_eq a1 a2 V
  by_cases c1 : 0 ≤ a1 ∧ a1 < V 4 1
  · replace e := e.trans (pf_call_eq ((nf_isPerson (V := V) a1).1 c1))
    replace e := e.trans (if_pos (by decide))
    by_cases c3 : a2 < 0 ∨ 3 < a2
    · replace e := e.trans (if_pos c3)
      exact e
    · replace e := e.trans (if_neg c3)
      by_cases c4 : a2 = 0
      · replace e := e.trans (if_pos c4)
        obtain ⟨u5, hu6⟩ : ∃ y, V 5 (a1 : Int).toNat = y := ⟨_, rfl⟩
        replace e := e.trans (pf_let_eq hu6)
        exfalso; omega
      · replace e := e.trans (if_neg c4)
        by_cases c7 : a2 = 1
        · replace e := e.trans (if_pos c7)
          obtain ⟨u8, hu9⟩ : ∃ y, V 6 (a1 : Int).toNat = y := ⟨_, rfl⟩
          replace e := e.trans (pf_let_eq hu9)
          exfalso; omega
        · replace e := e.trans (if_neg c7)
          by_cases c10 : a2 = 2
          · replace e := e.trans (if_pos c10)
            obtain ⟨u11, hu12⟩ : ∃ y, V 7 (a1 : Int).toNat = y := ⟨_, rfl⟩
            replace e := e.trans (pf_let_eq hu12)
            exfalso; omega
          · replace e := e.trans (if_neg c10)
            by_cases c13 : a2 = 3
            · replace e := e.trans (if_pos c13)
              obtain ⟨u14, hu15⟩ : ∃ y, V 8 (a1 : Int).toNat = y := ⟨_, rfl⟩
              replace e := e.trans (pf_let_eq hu15)
              exfalso; omega
            · replace e := e.trans (if_neg c13)
              exfalso; omega
  · replace e := e.trans (pf_call_eq ((nf_isPerson (V := V) a1).2 c1))
    replace e := e.trans (if_neg (by decide))
    exact e
