/-! A NEW SCENE on the class's side: its one person -/
set_option maxHeartbeats 4000000 in
theorem sc_dC {V V1 : pm_M} {y1 : Int} (he : F_X11_scene V = (y1, V1)) (hy : y1 ≠ -1) : V1 5 0 = 0 ∧ V1 6 0 = 0 ∧ V1 7 0 = V1 (V1 0 8).toNat 8 ∧ V1 8 0 = 0 := by
  have e := F_X11_scene_eq V
  by_cases c1 : V 0 9 = 45
  · replace e := e.trans (if_pos c1)
    obtain ⟨z2, Z3, q4⟩ : ∃ z Z, F_X6_read 45 V = (z, Z) := ⟨_, _, rfl⟩
    replace e := e.trans (pf_call_eq q4)
    obtain ⟨u5, hu6⟩ : ∃ y, Z3 45 0 = y := ⟨_, rfl⟩
    replace e := e.trans (pf_let_eq hu6)
    by_cases c7 : z2 = (-1)
    · replace e := e.trans (if_pos c7)
      by_cases c8 : Z3 0 8 = 45
      · replace e := e.trans (if_pos c8)
        obtain ⟨u9, hu10⟩ : ∃ y, Z3 45 8 = y := ⟨_, rfl⟩
        replace e := e.trans (pf_let_eq hu10)
        obtain ⟨z11, Z12, q13⟩ : ∃ z Z, F_X7_begin u9 (pm_up (pm_up (pm_up Z3 0 8 45) 0 9 45) 1 1 0) = (z, Z) := ⟨_, _, rfl⟩
        replace e := e.trans (pf_call_eq q13)
        obtain ⟨B, hB, g⟩ := pf_loop (he.symm.trans e)
        exact sc_fin (c := 45) (Or.inl ⟨rfl, rfl⟩) hu10 q13 (fun x U => congrFun hB (x, U)) g
      · replace e := e.trans (if_neg c8)
        obtain ⟨u14, hu15⟩ : ∃ y, Z3 45 8 = y := ⟨_, rfl⟩
        replace e := e.trans (pf_let_eq hu15)
        obtain ⟨z16, Z17, q18⟩ : ∃ z Z, F_X7_begin u14 (pm_up (pm_up (pm_up Z3 0 8 45) 0 9 51) 1 1 0) = (z, Z) := ⟨_, _, rfl⟩
        replace e := e.trans (pf_call_eq q18)
        obtain ⟨B, hB, g⟩ := pf_loop (he.symm.trans e)
        exact sc_fin (c := 45) (Or.inl ⟨rfl, rfl⟩) hu15 q18 (fun x U => congrFun hB (x, U)) g
    · replace e := e.trans (if_neg c7)
      obtain ⟨rfl, -⟩ := Prod.mk.inj (he.symm.trans e)
      exact absurd rfl hy
  · replace e := e.trans (if_neg c1)
    obtain ⟨z19, Z20, q21⟩ : ∃ z Z, F_X6_read 51 V = (z, Z) := ⟨_, _, rfl⟩
    replace e := e.trans (pf_call_eq q21)
    obtain ⟨u22, hu23⟩ : ∃ y, Z20 51 0 = y := ⟨_, rfl⟩
    replace e := e.trans (pf_let_eq hu23)
    by_cases c24 : z19 = (-1)
    · replace e := e.trans (if_pos c24)
      by_cases c25 : Z20 0 8 = 45
      · replace e := e.trans (if_pos c25)
        obtain ⟨u26, hu27⟩ : ∃ y, Z20 51 8 = y := ⟨_, rfl⟩
        replace e := e.trans (pf_let_eq hu27)
        obtain ⟨z28, Z29, q30⟩ : ∃ z Z, F_X7_begin u26 (pm_up (pm_up (pm_up Z20 0 8 51) 0 9 45) 1 1 0) = (z, Z) := ⟨_, _, rfl⟩
        replace e := e.trans (pf_call_eq q30)
        obtain ⟨B, hB, g⟩ := pf_loop (he.symm.trans e)
        exact sc_fin (c := 51) (Or.inr ⟨rfl, rfl⟩) hu27 q30 (fun x U => congrFun hB (x, U)) g
      · replace e := e.trans (if_neg c25)
        obtain ⟨u31, hu32⟩ : ∃ y, Z20 51 8 = y := ⟨_, rfl⟩
        replace e := e.trans (pf_let_eq hu32)
        obtain ⟨z33, Z34, q35⟩ : ∃ z Z, F_X7_begin u31 (pm_up (pm_up (pm_up Z20 0 8 51) 0 9 51) 1 1 0) = (z, Z) := ⟨_, _, rfl⟩
        replace e := e.trans (pf_call_eq q35)
        obtain ⟨B, hB, g⟩ := pf_loop (he.symm.trans e)
        exact sc_fin (c := 51) (Or.inr ⟨rfl, rfl⟩) hu32 q35 (fun x U => congrFun hB (x, U)) g
    · replace e := e.trans (if_neg c24)
      obtain ⟨rfl, -⟩ := Prod.mk.inj (he.symm.trans e)
      exact absurd rfl hy
