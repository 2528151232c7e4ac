noncomputable def F_X11_isSound (a1 : Int) (V0 : pm_M) : Int × pm_M := (if a1 < 0 then ((0, V0)) else ((if V0 0 8 = 45 then (pf_let (V0 45 0) fun y3 => (if y3 ≤ a1 then ((0, V0)) else ((1, V0)))) else (pf_let (V0 51 0) fun y7 => (if y7 ≤ a1 then ((0, V0)) else ((1, V0)))))))
theorem F_X11_isSound_eq (a1 : Int) (V0 : pm_M) : F_X11_isSound a1 V0 = (if a1 < 0 then ((0, V0)) else ((if V0 0 8 = 45 then (pf_let (V0 45 0) fun y3 => (if y3 ≤ a1 then ((0, V0)) else ((1, V0)))) else (pf_let (V0 51 0) fun y7 => (if y7 ≤ a1 then ((0, V0)) else ((1, V0))))))) := rfl
noncomputable def F_X11_sound (a1 a2 : Int) (V0 : pm_M) : Int × pm_M := pf_call (F_X11_isSound a1 V0) fun y4 _ => (if ¬ (y4 = 0) then ((if a2 < 0 ∨ 2 < a2 then (((-1), V0)) else (if a2 = 0 then ((if V0 0 8 = 45 then (pf_let (V0 46 (a1 : Int).toNat) fun y11 => (y11, V0)) else (pf_let (V0 52 (a1 : Int).toNat) fun y15 => (y15, V0)))) else (if a2 = 1 then ((if V0 0 8 = 45 then (pf_let (V0 47 (a1 : Int).toNat) fun y20 => (y20, V0)) else (pf_let (V0 53 (a1 : Int).toNat) fun y24 => (y24, V0)))) else (if a2 = 2 then ((if V0 0 8 = 45 then (pf_let (V0 48 (a1 : Int).toNat) fun y29 => (y29, V0)) else (pf_let (V0 54 (a1 : Int).toNat) fun y33 => (y33, V0)))) else (((0 : Int), V0))))))) else (((-1), V0)))
theorem F_X11_sound_eq (a1 a2 : Int) (V0 : pm_M) : F_X11_sound a1 a2 V0 = pf_call (F_X11_isSound a1 V0) fun y4 _ => (if ¬ (y4 = 0) then ((if a2 < 0 ∨ 2 < a2 then (((-1), V0)) else (if a2 = 0 then ((if V0 0 8 = 45 then (pf_let (V0 46 (a1 : Int).toNat) fun y11 => (y11, V0)) else (pf_let (V0 52 (a1 : Int).toNat) fun y15 => (y15, V0)))) else (if a2 = 1 then ((if V0 0 8 = 45 then (pf_let (V0 47 (a1 : Int).toNat) fun y20 => (y20, V0)) else (pf_let (V0 53 (a1 : Int).toNat) fun y24 => (y24, V0)))) else (if a2 = 2 then ((if V0 0 8 = 45 then (pf_let (V0 48 (a1 : Int).toNat) fun y29 => (y29, V0)) else (pf_let (V0 54 (a1 : Int).toNat) fun y33 => (y33, V0)))) else (((0 : Int), V0))))))) else (((-1), V0))) := rfl
noncomputable def F_X11_areChanges (a1 a2 : Int) (V0 : pm_M) : Int × pm_M := (if a1 < (-30) then ((0, V0)) else ((if 30 < a1 then ((0, V0)) else ((if a2 < (-30) then ((0, V0)) else ((if 30 < a2 then ((0, V0)) else ((1, V0)))))))))
theorem F_X11_areChanges_eq (a1 a2 : Int) (V0 : pm_M) : F_X11_areChanges a1 a2 V0 = (if a1 < (-30) then ((0, V0)) else ((if 30 < a1 then ((0, V0)) else ((if a2 < (-30) then ((0, V0)) else ((if 30 < a2 then ((0, V0)) else ((1, V0))))))))) := rfl
noncomputable def F_X11_hasScene (V0 : pm_M) : Int × pm_M := (if V0 0 8 = 45 then (pf_let (V0 45 0) fun y2 => (if y2 ≤ 0 then ((0, V0)) else ((1, V0)))) else (pf_let (V0 51 0) fun y6 => (if y6 ≤ 0 then ((0, V0)) else ((1, V0)))))
theorem F_X11_hasScene_eq (V0 : pm_M) : F_X11_hasScene V0 = (if V0 0 8 = 45 then (pf_let (V0 45 0) fun y2 => (if y2 ≤ 0 then ((0, V0)) else ((1, V0)))) else (pf_let (V0 51 0) fun y6 => (if y6 ≤ 0 then ((0, V0)) else ((1, V0))))) := rfl
noncomputable def F_X11_isBelief (a1 : Int) (V0 : pm_M) : Int × pm_M := (if a1 < 0 then ((0, V0)) else ((if 16 < a1 then ((0, V0)) else ((1, V0)))))
theorem F_X11_isBelief_eq (a1 : Int) (V0 : pm_M) : F_X11_isBelief a1 V0 = (if a1 < 0 then ((0, V0)) else ((if 16 < a1 then ((0, V0)) else ((1, V0))))) := rfl
noncomputable def F_X7_changePerson (a1 a2 a3 a4 : Int) (V0 : pm_M) : Int × pm_M := (0, (pm_up (pm_up (pm_up V0 5 (a1 : Int).toNat a2) 6 (a1 : Int).toNat a3) 7 (a1 : Int).toNat a4))
theorem F_X7_changePerson_eq (a1 a2 a3 a4 : Int) (V0 : pm_M) : F_X7_changePerson a1 a2 a3 a4 V0 = (0, (pm_up (pm_up (pm_up V0 5 (a1 : Int).toNat a2) 6 (a1 : Int).toNat a3) 7 (a1 : Int).toNat a4)) := rfl
noncomputable def F_X7_addPerson (a1 a2 a3 a4 : Int) (V0 : pm_M) : Int × pm_M := pf_let (V0 4 1) fun y1 => (if y1 < 10 then (pf_call (F_X7_changePerson y1 a1 a2 a3 (pm_up V0 8 (y1 : Int).toNat a4)) fun _ V7 => (((y1 + 1) - 1), (pm_up V7 4 1 (y1 + 1)))) else (((-1), V0)))
theorem F_X7_addPerson_eq (a1 a2 a3 a4 : Int) (V0 : pm_M) : F_X7_addPerson a1 a2 a3 a4 V0 = pf_let (V0 4 1) fun y1 => (if y1 < 10 then (pf_call (F_X7_changePerson y1 a1 a2 a3 (pm_up V0 8 (y1 : Int).toNat a4)) fun _ V7 => (((y1 + 1) - 1), (pm_up V7 4 1 (y1 + 1)))) else (((-1), V0))) := rfl
noncomputable def F_X11_person (a1 a2 a3 : Int) (V0 : pm_M) : Int × pm_M := pf_call (F_X11_areChanges a1 a2 V0) fun y4 _ => (if y4 = 0 then (pf_call (F_X11_hasScene  V0) fun y11 _ => (if y11 = 0 then (((-1), V0)) else (((-1), V0)))) else ((if a3 < 0 then (pf_call (F_X11_hasScene  V0) fun y20 _ => (if y20 = 0 then (((-1), V0)) else (((-1), V0)))) else ((if 3 < (a3 / 100) then (pf_call (F_X11_hasScene  V0) fun y29 _ => (if y29 = 0 then (((-1), V0)) else (((-1), V0)))) else (pf_call (F_X11_isBelief (a3 % 100) V0) fun y37 _ => (if y37 = 0 then (pf_call (F_X11_hasScene  V0) fun y44 _ => (if y44 = 0 then (((-1), V0)) else (((-1), V0)))) else (pf_call (F_X11_hasScene  V0) fun y52 _ => (if y52 = 0 then (((-1), V0)) else (pf_let (V0 4 1) fun y58 => (if y58 < 10 then (pf_call (F_X7_addPerson a1 a2 (a3 % 100) (a3 / 100) V0) fun y65 V63 => (y65, V63)) else (((-1), V0)))))))))))))
theorem F_X11_person_eq (a1 a2 a3 : Int) (V0 : pm_M) : F_X11_person a1 a2 a3 V0 = pf_call (F_X11_areChanges a1 a2 V0) fun y4 _ => (if y4 = 0 then (pf_call (F_X11_hasScene  V0) fun y11 _ => (if y11 = 0 then (((-1), V0)) else (((-1), V0)))) else ((if a3 < 0 then (pf_call (F_X11_hasScene  V0) fun y20 _ => (if y20 = 0 then (((-1), V0)) else (((-1), V0)))) else ((if 3 < (a3 / 100) then (pf_call (F_X11_hasScene  V0) fun y29 _ => (if y29 = 0 then (((-1), V0)) else (((-1), V0)))) else (pf_call (F_X11_isBelief (a3 % 100) V0) fun y37 _ => (if y37 = 0 then (pf_call (F_X11_hasScene  V0) fun y44 _ => (if y44 = 0 then (((-1), V0)) else (((-1), V0)))) else (pf_call (F_X11_hasScene  V0) fun y52 _ => (if y52 = 0 then (((-1), V0)) else (pf_let (V0 4 1) fun y58 => (if y58 < 10 then (pf_call (F_X7_addPerson a1 a2 (a3 % 100) (a3 / 100) V0) fun y65 V63 => (y65, V63)) else (((-1), V0))))))))))))) := rfl
noncomputable def F_X11_isPerson (a1 : Int) (V0 : pm_M) : Int × pm_M := (if a1 < 0 then ((0, V0)) else (pf_let (V0 4 1) fun y3 => (if y3 ≤ a1 then ((0, V0)) else ((1, V0)))))
theorem F_X11_isPerson_eq (a1 : Int) (V0 : pm_M) : F_X11_isPerson a1 V0 = (if a1 < 0 then ((0, V0)) else (pf_let (V0 4 1) fun y3 => (if y3 ≤ a1 then ((0, V0)) else ((1, V0))))) := rfl
noncomputable def F_X11_who (a1 a2 : Int) (V0 : pm_M) : Int × pm_M := pf_call (F_X11_isPerson a1 V0) fun y4 _ => (if ¬ (y4 = 0) then ((if a2 < 0 ∨ 3 < a2 then (((-2147483648), V0)) else (if a2 = 0 then (pf_let (V0 5 (a1 : Int).toNat) fun y11 => (y11, V0)) else (if a2 = 1 then (pf_let (V0 6 (a1 : Int).toNat) fun y16 => (y16, V0)) else (if a2 = 2 then (pf_let (V0 7 (a1 : Int).toNat) fun y21 => (y21, V0)) else (if a2 = 3 then (pf_let (V0 8 (a1 : Int).toNat) fun y26 => (y26, V0)) else (((0 : Int), V0)))))))) else (((-2147483648), V0)))
theorem F_X11_who_eq (a1 a2 : Int) (V0 : pm_M) : F_X11_who a1 a2 V0 = pf_call (F_X11_isPerson a1 V0) fun y4 _ => (if ¬ (y4 = 0) then ((if a2 < 0 ∨ 3 < a2 then (((-2147483648), V0)) else (if a2 = 0 then (pf_let (V0 5 (a1 : Int).toNat) fun y11 => (y11, V0)) else (if a2 = 1 then (pf_let (V0 6 (a1 : Int).toNat) fun y16 => (y16, V0)) else (if a2 = 2 then (pf_let (V0 7 (a1 : Int).toNat) fun y21 => (y21, V0)) else (if a2 = 3 then (pf_let (V0 8 (a1 : Int).toNat) fun y26 => (y26, V0)) else (((0 : Int), V0)))))))) else (((-2147483648), V0))) := rfl
noncomputable def F_X11_becomes (a1 a2 a3 a4 : Int) (V0 : pm_M) : Int × pm_M := pf_call (F_X11_isPerson a1 V0) fun y4 _ => (if y4 = 0 then ((0, V0)) else (pf_call (F_X11_areChanges a2 a3 V0) fun y11 _ => (if y11 = 0 then ((0, V0)) else (pf_call (F_X11_isBelief a4 V0) fun y18 _ => (if ¬ (y18 = 0) then (pf_call (F_X7_changePerson a1 a2 a3 a4 V0) fun _ V24 => (1, V24)) else ((0, V0)))))))
theorem F_X11_becomes_eq (a1 a2 a3 a4 : Int) (V0 : pm_M) : F_X11_becomes a1 a2 a3 a4 V0 = pf_call (F_X11_isPerson a1 V0) fun y4 _ => (if y4 = 0 then ((0, V0)) else (pf_call (F_X11_areChanges a2 a3 V0) fun y11 _ => (if y11 = 0 then ((0, V0)) else (pf_call (F_X11_isBelief a4 V0) fun y18 _ => (if ¬ (y18 = 0) then (pf_call (F_X7_changePerson a1 a2 a3 a4 V0) fun _ V24 => (1, V24)) else ((0, V0))))))) := rfl
noncomputable def F_X11_isLaw (a1 : Int) (V0 : pm_M) : Int × pm_M := (if a1 < 0 then ((0, V0)) else ((if 7 ≤ a1 then ((0, V0)) else ((1, V0)))))
theorem F_X11_isLaw_eq (a1 : Int) (V0 : pm_M) : F_X11_isLaw a1 V0 = (if a1 < 0 then ((0, V0)) else ((if 7 ≤ a1 then ((0, V0)) else ((1, V0))))) := rfl
noncomputable def F_X11_isSetting (a1 : Int) (V0 : pm_M) : Int × pm_M := (if a1 < 0 then ((0, V0)) else ((if 99 < a1 then ((0, V0)) else ((1, V0)))))
theorem F_X11_isSetting_eq (a1 : Int) (V0 : pm_M) : F_X11_isSetting a1 V0 = (if a1 < 0 then ((0, V0)) else ((if 99 < a1 then ((0, V0)) else ((1, V0))))) := rfl
noncomputable def F_X11_isLate (a1 : Int) (V0 : pm_M) : Int × pm_M := (if a1 < (-99) then ((0, V0)) else ((if 99 < a1 then ((0, V0)) else ((1, V0)))))
theorem F_X11_isLate_eq (a1 : Int) (V0 : pm_M) : F_X11_isLate a1 V0 = (if a1 < (-99) then ((0, V0)) else ((if 99 < a1 then ((0, V0)) else ((1, V0))))) := rfl
noncomputable def F_X11_isTrial (a1 a2 a3 : Int) (V0 : pm_M) : Int × pm_M := (if a1 < 0 then ((0, V0)) else (pf_call (F_X11_isPerson (a1 / 100) V0) fun y6 _ => (if y6 = 0 then ((0, V0)) else (pf_call (F_X11_isSound ((a1 / 10) % 10) V0) fun y14 _ => (if y14 = 0 then ((0, V0)) else (pf_call (F_X11_isSound (a1 % 10) V0) fun y22 _ => (if y22 = 0 then ((0, V0)) else (pf_call (F_X11_isSetting a2 V0) fun y31 _ => (if y31 = 0 then ((0, V0)) else (pf_call (F_X11_isLate a3 V0) fun y38 _ => (if y38 = 0 then ((0, V0)) else ((1, V0)))))))))))))
theorem F_X11_isTrial_eq (a1 a2 a3 : Int) (V0 : pm_M) : F_X11_isTrial a1 a2 a3 V0 = (if a1 < 0 then ((0, V0)) else (pf_call (F_X11_isPerson (a1 / 100) V0) fun y6 _ => (if y6 = 0 then ((0, V0)) else (pf_call (F_X11_isSound ((a1 / 10) % 10) V0) fun y14 _ => (if y14 = 0 then ((0, V0)) else (pf_call (F_X11_isSound (a1 % 10) V0) fun y22 _ => (if y22 = 0 then ((0, V0)) else (pf_call (F_X11_isSetting a2 V0) fun y31 _ => (if y31 = 0 then ((0, V0)) else (pf_call (F_X11_isLate a3 V0) fun y38 _ => (if y38 = 0 then ((0, V0)) else ((1, V0))))))))))))) := rfl
noncomputable def F_X10_place (sc : Nat) (a1 a2 : Int) (V0 : pm_M) : Int × pm_M := (0, (pm_up (pm_up (pm_up (pm_up (pm_up V0 73 0 (sc : Int)) 73 1 (a1 / 10)) 73 2 (a1 % 10)) 73 3 (a2 / 10)) 73 4 (a2 % 10)))
theorem F_X10_place_eq (sc : Nat) (a1 a2 : Int) (V0 : pm_M) : F_X10_place sc a1 a2 V0 = (0, (pm_up (pm_up (pm_up (pm_up (pm_up V0 73 0 (sc : Int)) 73 1 (a1 / 10)) 73 2 (a1 % 10)) 73 3 (a2 / 10)) 73 4 (a2 % 10))) := rfl
noncomputable def F_X10_farFrom (a1 a2 a3 : Int) (V0 : pm_M) : Int × pm_M := (if V0 73 0 = 45 then (pf_let (V0 46 (a1 : Int).toNat) fun y3 => pf_let (pm_ab (y3 - a2)) fun y6 => pf_let (V0 47 (a1 : Int).toNat) fun y10 => pf_let (pm_ab (y10 - a3)) fun y13 => ((y6 + y13), V0)) else (pf_let (V0 52 (a1 : Int).toNat) fun y17 => pf_let (pm_ab (y17 - a2)) fun y20 => pf_let (V0 53 (a1 : Int).toNat) fun y24 => pf_let (pm_ab (y24 - a3)) fun y27 => ((y20 + y27), V0)))
theorem F_X10_farFrom_eq (a1 a2 a3 : Int) (V0 : pm_M) : F_X10_farFrom a1 a2 a3 V0 = (if V0 73 0 = 45 then (pf_let (V0 46 (a1 : Int).toNat) fun y3 => pf_let (pm_ab (y3 - a2)) fun y6 => pf_let (V0 47 (a1 : Int).toNat) fun y10 => pf_let (pm_ab (y10 - a3)) fun y13 => ((y6 + y13), V0)) else (pf_let (V0 52 (a1 : Int).toNat) fun y17 => pf_let (pm_ab (y17 - a2)) fun y20 => pf_let (V0 53 (a1 : Int).toNat) fun y24 => pf_let (pm_ab (y24 - a3)) fun y27 => ((y20 + y27), V0))) := rfl
noncomputable def F_X10_spread (a1 a2 : Int) (V0 : pm_M) : Int × pm_M := (if V0 73 0 = 45 then (pf_let (V0 45 4) fun y2 => pf_let (V0 45 5) fun y5 => pf_let (V0 73 3) fun y8 => pf_let ((y5 * y8)) fun y11 => pf_let (pm_mx 1 ((y2 + a1) + y11)) fun y13 => pf_let (V0 45 6) fun y16 => pf_let (V0 45 7) fun y19 => pf_let (V0 73 4) fun y22 => pf_let ((y19 * y22)) fun y25 => pf_let (pm_mx 1 ((y16 + a2) + y25)) fun y27 => pf_let ((pm_up (pm_up (pm_up (pm_up (pm_up V0 73 5 y13) 73 6 y27) 73 10 0) 73 11 0) 73 12 0)) fun V30 => pf_val ((0 : Int), V0) (fun (q : Int × pm_M) => match q with | (x46, V48) => (pf_let (V48 45 0) fun y67 => (if y67 ≤ x46 then ((.inr (0, V48))) else (pf_let (V48 46 (x46 : Int).toNat) fun y72 => pf_let (V48 73 2) fun y75 => pf_let (V48 46 (y75 : Int).toNat) fun y78 => pf_let (pm_ab (y72 - y78)) fun y81 => pf_let (V48 48 (x46 : Int).toNat) fun y85 => pf_let (V48 73 1) fun y88 => pf_let (V48 46 (y88 : Int).toNat) fun y91 => pf_let (V48 47 (y88 : Int).toNat) fun y95 => pf_call (F_X10_farFrom x46 y91 y95 V48) fun y101 _ => pf_let (pm_mx 0 (y13 - y101)) fun y104 => pf_let ((y85 * y104)) fun y107 => pf_let (pm_mx 0 (y27 - y81)) fun y109 => pf_let (V48 73 10) fun y114 => pf_let (pm_w64 (y114 + y107)) fun y117 => pf_let (V48 73 11) fun y120 => pf_let (pm_w64 (y120 + y109)) fun y123 => pf_let (V48 73 12) fun y126 => pf_let ((y107 * y109)) fun y129 => pf_let (pm_w64 (y126 + y129)) fun y131 => pf_let (x46 + 1) fun x134 => (.inl (x134, (pm_up (pm_up (pm_up (pm_up (pm_up V48 74 (x46 : Int).toNat y107) 75 (x46 : Int).toNat y109) 73 10 y117) 73 11 y123) 73 12 y131))))))) (0, V30)) else (pf_let (V0 51 4) fun y136 => pf_let (V0 51 5) fun y139 => pf_let (V0 73 3) fun y142 => pf_let ((y139 * y142)) fun y145 => pf_let (pm_mx 1 ((y136 + a1) + y145)) fun y147 => pf_let (V0 51 6) fun y150 => pf_let (V0 51 7) fun y153 => pf_let (V0 73 4) fun y156 => pf_let ((y153 * y156)) fun y159 => pf_let (pm_mx 1 ((y150 + a2) + y159)) fun y161 => pf_let ((pm_up (pm_up (pm_up (pm_up (pm_up V0 73 5 y147) 73 6 y161) 73 10 0) 73 11 0) 73 12 0)) fun V164 => pf_val ((0 : Int), V0) (fun (q : Int × pm_M) => match q with | (x180, V182) => (pf_let (V182 51 0) fun y201 => (if y201 ≤ x180 then ((.inr (0, V182))) else (pf_let (V182 52 (x180 : Int).toNat) fun y206 => pf_let (V182 73 2) fun y209 => pf_let (V182 52 (y209 : Int).toNat) fun y212 => pf_let (pm_ab (y206 - y212)) fun y215 => pf_let (V182 54 (x180 : Int).toNat) fun y219 => pf_let (V182 73 1) fun y222 => pf_let (V182 52 (y222 : Int).toNat) fun y225 => pf_let (V182 53 (y222 : Int).toNat) fun y229 => pf_call (F_X10_farFrom x180 y225 y229 V182) fun y235 _ => pf_let (pm_mx 0 (y147 - y235)) fun y238 => pf_let ((y219 * y238)) fun y241 => pf_let (pm_mx 0 (y161 - y215)) fun y243 => pf_let (V182 73 10) fun y248 => pf_let (pm_w64 (y248 + y241)) fun y251 => pf_let (V182 73 11) fun y254 => pf_let (pm_w64 (y254 + y243)) fun y257 => pf_let (V182 73 12) fun y260 => pf_let ((y241 * y243)) fun y263 => pf_let (pm_w64 (y260 + y263)) fun y265 => pf_let (x180 + 1) fun x268 => (.inl (x268, (pm_up (pm_up (pm_up (pm_up (pm_up V182 74 (x180 : Int).toNat y241) 75 (x180 : Int).toNat y243) 73 10 y251) 73 11 y257) 73 12 y265))))))) (0, V164)))
theorem F_X10_spread_eq (a1 a2 : Int) (V0 : pm_M) : F_X10_spread a1 a2 V0 = (if V0 73 0 = 45 then (pf_let (V0 45 4) fun y2 => pf_let (V0 45 5) fun y5 => pf_let (V0 73 3) fun y8 => pf_let ((y5 * y8)) fun y11 => pf_let (pm_mx 1 ((y2 + a1) + y11)) fun y13 => pf_let (V0 45 6) fun y16 => pf_let (V0 45 7) fun y19 => pf_let (V0 73 4) fun y22 => pf_let ((y19 * y22)) fun y25 => pf_let (pm_mx 1 ((y16 + a2) + y25)) fun y27 => pf_let ((pm_up (pm_up (pm_up (pm_up (pm_up V0 73 5 y13) 73 6 y27) 73 10 0) 73 11 0) 73 12 0)) fun V30 => pf_val ((0 : Int), V0) (fun (q : Int × pm_M) => match q with | (x46, V48) => (pf_let (V48 45 0) fun y67 => (if y67 ≤ x46 then ((.inr (0, V48))) else (pf_let (V48 46 (x46 : Int).toNat) fun y72 => pf_let (V48 73 2) fun y75 => pf_let (V48 46 (y75 : Int).toNat) fun y78 => pf_let (pm_ab (y72 - y78)) fun y81 => pf_let (V48 48 (x46 : Int).toNat) fun y85 => pf_let (V48 73 1) fun y88 => pf_let (V48 46 (y88 : Int).toNat) fun y91 => pf_let (V48 47 (y88 : Int).toNat) fun y95 => pf_call (F_X10_farFrom x46 y91 y95 V48) fun y101 _ => pf_let (pm_mx 0 (y13 - y101)) fun y104 => pf_let ((y85 * y104)) fun y107 => pf_let (pm_mx 0 (y27 - y81)) fun y109 => pf_let (V48 73 10) fun y114 => pf_let (pm_w64 (y114 + y107)) fun y117 => pf_let (V48 73 11) fun y120 => pf_let (pm_w64 (y120 + y109)) fun y123 => pf_let (V48 73 12) fun y126 => pf_let ((y107 * y109)) fun y129 => pf_let (pm_w64 (y126 + y129)) fun y131 => pf_let (x46 + 1) fun x134 => (.inl (x134, (pm_up (pm_up (pm_up (pm_up (pm_up V48 74 (x46 : Int).toNat y107) 75 (x46 : Int).toNat y109) 73 10 y117) 73 11 y123) 73 12 y131))))))) (0, V30)) else (pf_let (V0 51 4) fun y136 => pf_let (V0 51 5) fun y139 => pf_let (V0 73 3) fun y142 => pf_let ((y139 * y142)) fun y145 => pf_let (pm_mx 1 ((y136 + a1) + y145)) fun y147 => pf_let (V0 51 6) fun y150 => pf_let (V0 51 7) fun y153 => pf_let (V0 73 4) fun y156 => pf_let ((y153 * y156)) fun y159 => pf_let (pm_mx 1 ((y150 + a2) + y159)) fun y161 => pf_let ((pm_up (pm_up (pm_up (pm_up (pm_up V0 73 5 y147) 73 6 y161) 73 10 0) 73 11 0) 73 12 0)) fun V164 => pf_val ((0 : Int), V0) (fun (q : Int × pm_M) => match q with | (x180, V182) => (pf_let (V182 51 0) fun y201 => (if y201 ≤ x180 then ((.inr (0, V182))) else (pf_let (V182 52 (x180 : Int).toNat) fun y206 => pf_let (V182 73 2) fun y209 => pf_let (V182 52 (y209 : Int).toNat) fun y212 => pf_let (pm_ab (y206 - y212)) fun y215 => pf_let (V182 54 (x180 : Int).toNat) fun y219 => pf_let (V182 73 1) fun y222 => pf_let (V182 52 (y222 : Int).toNat) fun y225 => pf_let (V182 53 (y222 : Int).toNat) fun y229 => pf_call (F_X10_farFrom x180 y225 y229 V182) fun y235 _ => pf_let (pm_mx 0 (y147 - y235)) fun y238 => pf_let ((y219 * y238)) fun y241 => pf_let (pm_mx 0 (y161 - y215)) fun y243 => pf_let (V182 73 10) fun y248 => pf_let (pm_w64 (y248 + y241)) fun y251 => pf_let (V182 73 11) fun y254 => pf_let (pm_w64 (y254 + y243)) fun y257 => pf_let (V182 73 12) fun y260 => pf_let ((y241 * y243)) fun y263 => pf_let (pm_w64 (y260 + y263)) fun y265 => pf_let (x180 + 1) fun x268 => (.inl (x268, (pm_up (pm_up (pm_up (pm_up (pm_up V182 74 (x180 : Int).toNat y241) 75 (x180 : Int).toNat y243) 73 10 y251) 73 11 y257) 73 12 y265))))))) (0, V164))) := rfl
noncomputable def F_X11_poseAs (a1 a2 a3 a4 : Int) (V0 : pm_M) : Int × pm_M := (if V0 0 8 = 45 then (pf_call (F_X10_place 45 (a1 % 100) a2 V0) fun _ V4 => pf_call (F_X10_spread a3 a4 V4) fun _ V13 => (0, V13)) else (pf_call (F_X10_place 51 (a1 % 100) a2 V0) fun _ V22 => pf_call (F_X10_spread a3 a4 V22) fun _ V31 => (0, V31)))
theorem F_X11_poseAs_eq (a1 a2 a3 a4 : Int) (V0 : pm_M) : F_X11_poseAs a1 a2 a3 a4 V0 = (if V0 0 8 = 45 then (pf_call (F_X10_place 45 (a1 % 100) a2 V0) fun _ V4 => pf_call (F_X10_spread a3 a4 V4) fun _ V13 => (0, V13)) else (pf_call (F_X10_place 51 (a1 % 100) a2 V0) fun _ V22 => pf_call (F_X10_spread a3 a4 V22) fun _ V31 => (0, V31))) := rfl
noncomputable def F_X10_trustAt (a1 a2 : Int) (V0 : pm_M) : Int × pm_M := (if a2 < 0 then ((if V0 73 0 = 45 then (pf_let (V0 45 9) fun y3 => pf_let (pm_mx 1 (y3 / 2)) fun y6 => pf_let (((-a2) / y6)) fun y9 => pf_let (pm_w32 (a1 - y9)) fun y11 => pf_let (pm_mx 0 y11) fun y14 => (0, (pm_up V0 73 7 y14))) else (pf_let (V0 51 9) fun y17 => pf_let (pm_mx 1 (y17 / 2)) fun y20 => pf_let (((-a2) / y20)) fun y23 => pf_let (pm_w32 (a1 - y23)) fun y25 => pf_let (pm_mx 0 y25) fun y28 => (0, (pm_up V0 73 7 y28))))) else ((if V0 73 0 = 45 then (pf_let (V0 45 9) fun y32 => pf_let (pm_mx 1 y32) fun y35 => pf_let ((a2 / y35)) fun y38 => pf_let (pm_w32 (a1 - y38)) fun y40 => pf_let (pm_mx 0 y40) fun y43 => (0, (pm_up V0 73 7 y43))) else (pf_let (V0 51 9) fun y46 => pf_let (pm_mx 1 y46) fun y49 => pf_let ((a2 / y49)) fun y52 => pf_let (pm_w32 (a1 - y52)) fun y54 => pf_let (pm_mx 0 y54) fun y57 => (0, (pm_up V0 73 7 y57))))))
theorem F_X10_trustAt_eq (a1 a2 : Int) (V0 : pm_M) : F_X10_trustAt a1 a2 V0 = (if a2 < 0 then ((if V0 73 0 = 45 then (pf_let (V0 45 9) fun y3 => pf_let (pm_mx 1 (y3 / 2)) fun y6 => pf_let (((-a2) / y6)) fun y9 => pf_let (pm_w32 (a1 - y9)) fun y11 => pf_let (pm_mx 0 y11) fun y14 => (0, (pm_up V0 73 7 y14))) else (pf_let (V0 51 9) fun y17 => pf_let (pm_mx 1 (y17 / 2)) fun y20 => pf_let (((-a2) / y20)) fun y23 => pf_let (pm_w32 (a1 - y23)) fun y25 => pf_let (pm_mx 0 y25) fun y28 => (0, (pm_up V0 73 7 y28))))) else ((if V0 73 0 = 45 then (pf_let (V0 45 9) fun y32 => pf_let (pm_mx 1 y32) fun y35 => pf_let ((a2 / y35)) fun y38 => pf_let (pm_w32 (a1 - y38)) fun y40 => pf_let (pm_mx 0 y40) fun y43 => (0, (pm_up V0 73 7 y43))) else (pf_let (V0 51 9) fun y46 => pf_let (pm_mx 1 y46) fun y49 => pf_let ((a2 / y49)) fun y52 => pf_let (pm_w32 (a1 - y52)) fun y54 => pf_let (pm_mx 0 y54) fun y57 => (0, (pm_up V0 73 7 y57)))))) := rfl
noncomputable def F_X11_pose (a1 a2 a3 : Int) (V0 : pm_M) : Int × pm_M := pf_let (V0 5 ((a1 / 100) : Int).toNat) fun y3 => pf_let (V0 6 ((a1 / 100) : Int).toNat) fun y7 => pf_call (F_X11_poseAs a1 a2 y3 y7 V0) fun _ V11 => pf_let (V11 7 ((a1 / 100) : Int).toNat) fun y22 => pf_call (F_X10_trustAt y22 a3 V11) fun _ V26 => (0, V26)
theorem F_X11_pose_eq (a1 a2 a3 : Int) (V0 : pm_M) : F_X11_pose a1 a2 a3 V0 = pf_let (V0 5 ((a1 / 100) : Int).toNat) fun y3 => pf_let (V0 6 ((a1 / 100) : Int).toNat) fun y7 => pf_call (F_X11_poseAs a1 a2 y3 y7 V0) fun _ V11 => pf_let (V11 7 ((a1 / 100) : Int).toNat) fun y22 => pf_call (F_X10_trustAt y22 a3 V11) fun _ V26 => (0, V26) := rfl
noncomputable def F_X10_weighVoice (V0 : pm_M) : Int × pm_M := pf_val ((0 : Int), V0) (fun (q : Int × pm_M) => match q with | (x1, V3) => ((if V3 73 0 = 45 then (pf_let (V3 45 0) fun y14 => (if y14 ≤ x1 then (pf_let (V3 73 10) fun y18 => (.inr (0, (pm_up V3 73 14 y18)))) else ((if V3 73 13 = 76 then (pf_let (V3 74 (x1 : Int).toNat) fun y23 => pf_let (x1 + 1) fun x26 => (.inl (x26, (pm_up V3 76 (x1 : Int).toNat y23)))) else (pf_let (V3 74 (x1 : Int).toNat) fun y29 => pf_let (x1 + 1) fun x32 => (.inl (x32, (pm_up V3 77 (x1 : Int).toNat y29)))))))) else (pf_let (V3 51 0) fun y34 => (if y34 ≤ x1 then (pf_let (V3 73 10) fun y38 => (.inr (0, (pm_up V3 73 14 y38)))) else ((if V3 73 13 = 76 then (pf_let (V3 74 (x1 : Int).toNat) fun y43 => pf_let (x1 + 1) fun x46 => (.inl (x46, (pm_up V3 76 (x1 : Int).toNat y43)))) else (pf_let (V3 74 (x1 : Int).toNat) fun y49 => pf_let (x1 + 1) fun x52 => (.inl (x52, (pm_up V3 77 (x1 : Int).toNat y49))))))))))) (0, V0)
theorem F_X10_weighVoice_eq (V0 : pm_M) : F_X10_weighVoice V0 = pf_val ((0 : Int), V0) (fun (q : Int × pm_M) => match q with | (x1, V3) => ((if V3 73 0 = 45 then (pf_let (V3 45 0) fun y14 => (if y14 ≤ x1 then (pf_let (V3 73 10) fun y18 => (.inr (0, (pm_up V3 73 14 y18)))) else ((if V3 73 13 = 76 then (pf_let (V3 74 (x1 : Int).toNat) fun y23 => pf_let (x1 + 1) fun x26 => (.inl (x26, (pm_up V3 76 (x1 : Int).toNat y23)))) else (pf_let (V3 74 (x1 : Int).toNat) fun y29 => pf_let (x1 + 1) fun x32 => (.inl (x32, (pm_up V3 77 (x1 : Int).toNat y29)))))))) else (pf_let (V3 51 0) fun y34 => (if y34 ≤ x1 then (pf_let (V3 73 10) fun y38 => (.inr (0, (pm_up V3 73 14 y38)))) else ((if V3 73 13 = 76 then (pf_let (V3 74 (x1 : Int).toNat) fun y43 => pf_let (x1 + 1) fun x46 => (.inl (x46, (pm_up V3 76 (x1 : Int).toNat y43)))) else (pf_let (V3 74 (x1 : Int).toNat) fun y49 => pf_let (x1 + 1) fun x52 => (.inl (x52, (pm_up V3 77 (x1 : Int).toNat y49))))))))))) (0, V0) := rfl
noncomputable def F_X10_weighFace (V0 : pm_M) : Int × pm_M := pf_let ((pm_up V0 73 14 0)) fun V1 => pf_val ((0 : Int), V0) (fun (q : Int × pm_M) => match q with | (x6, V8) => ((if V8 73 0 = 45 then (pf_let (V8 45 0) fun y19 => (if y19 ≤ x6 then ((.inr (0, V8))) else ((if V8 73 13 = 76 then (pf_let (V8 48 (x6 : Int).toNat) fun y25 => pf_let (V8 75 (x6 : Int).toNat) fun y29 => pf_let (pm_w64 (y25 * y29)) fun y32 => pf_let (V8 73 14) fun y35 => pf_let ((pm_up V8 76 (x6 : Int).toNat y32)) fun V38 => pf_let (V38 76 (x6 : Int).toNat) fun y48 => pf_let (pm_w64 (y35 + y48)) fun y51 => pf_let (x6 + 1) fun x54 => (.inl (x54, (pm_up V38 73 14 y51)))) else (pf_let (V8 48 (x6 : Int).toNat) fun y57 => pf_let (V8 75 (x6 : Int).toNat) fun y61 => pf_let (pm_w64 (y57 * y61)) fun y64 => pf_let (V8 73 14) fun y67 => pf_let ((pm_up V8 77 (x6 : Int).toNat y64)) fun V70 => pf_let (V70 77 (x6 : Int).toNat) fun y80 => pf_let (pm_w64 (y67 + y80)) fun y83 => pf_let (x6 + 1) fun x86 => (.inl (x86, (pm_up V70 73 14 y83)))))))) else (pf_let (V8 51 0) fun y88 => (if y88 ≤ x6 then ((.inr (0, V8))) else ((if V8 73 13 = 76 then (pf_let (V8 54 (x6 : Int).toNat) fun y94 => pf_let (V8 75 (x6 : Int).toNat) fun y98 => pf_let (pm_w64 (y94 * y98)) fun y101 => pf_let (V8 73 14) fun y104 => pf_let ((pm_up V8 76 (x6 : Int).toNat y101)) fun V107 => pf_let (V107 76 (x6 : Int).toNat) fun y117 => pf_let (pm_w64 (y104 + y117)) fun y120 => pf_let (x6 + 1) fun x123 => (.inl (x123, (pm_up V107 73 14 y120)))) else (pf_let (V8 54 (x6 : Int).toNat) fun y126 => pf_let (V8 75 (x6 : Int).toNat) fun y130 => pf_let (pm_w64 (y126 * y130)) fun y133 => pf_let (V8 73 14) fun y136 => pf_let ((pm_up V8 77 (x6 : Int).toNat y133)) fun V139 => pf_let (V139 77 (x6 : Int).toNat) fun y149 => pf_let (pm_w64 (y136 + y149)) fun y152 => pf_let (x6 + 1) fun x155 => (.inl (x155, (pm_up V139 73 14 y152))))))))))) (0, V1)
theorem F_X10_weighFace_eq (V0 : pm_M) : F_X10_weighFace V0 = pf_let ((pm_up V0 73 14 0)) fun V1 => pf_val ((0 : Int), V0) (fun (q : Int × pm_M) => match q with | (x6, V8) => ((if V8 73 0 = 45 then (pf_let (V8 45 0) fun y19 => (if y19 ≤ x6 then ((.inr (0, V8))) else ((if V8 73 13 = 76 then (pf_let (V8 48 (x6 : Int).toNat) fun y25 => pf_let (V8 75 (x6 : Int).toNat) fun y29 => pf_let (pm_w64 (y25 * y29)) fun y32 => pf_let (V8 73 14) fun y35 => pf_let ((pm_up V8 76 (x6 : Int).toNat y32)) fun V38 => pf_let (V38 76 (x6 : Int).toNat) fun y48 => pf_let (pm_w64 (y35 + y48)) fun y51 => pf_let (x6 + 1) fun x54 => (.inl (x54, (pm_up V38 73 14 y51)))) else (pf_let (V8 48 (x6 : Int).toNat) fun y57 => pf_let (V8 75 (x6 : Int).toNat) fun y61 => pf_let (pm_w64 (y57 * y61)) fun y64 => pf_let (V8 73 14) fun y67 => pf_let ((pm_up V8 77 (x6 : Int).toNat y64)) fun V70 => pf_let (V70 77 (x6 : Int).toNat) fun y80 => pf_let (pm_w64 (y67 + y80)) fun y83 => pf_let (x6 + 1) fun x86 => (.inl (x86, (pm_up V70 73 14 y83)))))))) else (pf_let (V8 51 0) fun y88 => (if y88 ≤ x6 then ((.inr (0, V8))) else ((if V8 73 13 = 76 then (pf_let (V8 54 (x6 : Int).toNat) fun y94 => pf_let (V8 75 (x6 : Int).toNat) fun y98 => pf_let (pm_w64 (y94 * y98)) fun y101 => pf_let (V8 73 14) fun y104 => pf_let ((pm_up V8 76 (x6 : Int).toNat y101)) fun V107 => pf_let (V107 76 (x6 : Int).toNat) fun y117 => pf_let (pm_w64 (y104 + y117)) fun y120 => pf_let (x6 + 1) fun x123 => (.inl (x123, (pm_up V107 73 14 y120)))) else (pf_let (V8 54 (x6 : Int).toNat) fun y126 => pf_let (V8 75 (x6 : Int).toNat) fun y130 => pf_let (pm_w64 (y126 * y130)) fun y133 => pf_let (V8 73 14) fun y136 => pf_let ((pm_up V8 77 (x6 : Int).toNat y133)) fun V139 => pf_let (V139 77 (x6 : Int).toNat) fun y149 => pf_let (pm_w64 (y136 + y149)) fun y152 => pf_let (x6 + 1) fun x155 => (.inl (x155, (pm_up V139 73 14 y152))))))))))) (0, V1) := rfl
set_option maxHeartbeats 4000000 in
set_option maxRecDepth 100000 in
theorem fD_X11_isSound_0 (a1 : Int) (h0 : (-2147483648) ≤ a1 ∧ a1 ≤ 2147483647) : pm_K 1 yX11_isSound cX11_isSound 2 (some .boolean) (fun av V => av = [(3, 0), (0, a1)] ∧ pm_ok 0 90 V) (fun _ V r V' => ∃ y, r = some (0, y) ∧ (0 ≤ y ∧ y ≤ 1 ∧ (y = 1 → (0 ≤ a1 ∧ a1 ≤ 8))) ∧ V = V' ∧ F_X11_isSound a1 V = (y, V)) := by
  refine pm_MT.of (by decide) ⟨Nat.le_refl _, by decide⟩ (fun av V h => by rw [h.1]; exact (by decide : pm_words [(3, 0), (0, 0)] ≤ 2)) ?_
  rintro X av V0 hC - hR ⟨rfl, hV0⟩
  change pm_J X 0 [(0, (3, 0)), (1, (0, a1))] [] 118 V0
  have hT := F_X11_isSound_eq a1 V0
  refine pm_iload_n hC 1 dX11_isSound_0 rfl ?_
  refine pm_if_lt (tgt := 19) hC ⟨by omega, by omega⟩ dX11_isSound_1 (by decide) (fun c1 => ?_) (fun c1 => ?_)
  · skip
    replace hT := hT.trans (if_pos c1)
    refine pm_iconst (v := 0) hC dX11_isSound_19 ?_
    exact pm_iret hC hR (pm_narZ (by omega)) ⟨0, rfl, ⟨by omega, by omega, by omega⟩, rfl, hT⟩ dX11_isSound_20
  · skip
    replace hT := hT.trans (if_neg (Int.not_lt.mpr c1))
    refine pm_iload_n hC 1 dX11_isSound_4 rfl ?_
    refine pm_aload_n hC 0 (by decide) dX11_isSound_5 rfl ?_
    rcases hV0.get2 0 8 (lo := 45) (hi := 51) (by decide) (by decide) rfl with e2 | e2
    · skip
      replace hT := hT.trans (if_pos e2)
      refine pm_getf (v := 45) hC 0 fl_X11_35 rfl rfl (by decide) rfl e2 dX11_isSound_6 ?_
      obtain ⟨y3, e4⟩ : ∃ y, V0 45 0 = y := ⟨_, rfl⟩
      have b5 := hV0.get 45 0 (lo := 0) (hi := 9) (by decide) (by decide) rfl
      rw [e4] at b5
      replace hT := hT.trans (pf_let_eq e4)
      refine pm_getf (v := y3) hC 45 fl_X11_136 rfl rfl (by decide) rfl e4 dX11_isSound_9 ?_
      refine pm_icmp_ge (tgt := 19) hC ⟨by omega, by omega⟩ ⟨by omega, by omega⟩ dX11_isSound_12 (by decide) (fun c6 => ?_) (fun c6 => ?_)
      · skip
        replace hT := hT.trans (if_pos c6)
        refine pm_iconst (v := 0) hC dX11_isSound_19 ?_
        exact pm_iret hC hR (pm_narZ (by omega)) ⟨0, rfl, ⟨by omega, by omega, by omega⟩, rfl, hT⟩ dX11_isSound_20
      · skip
        replace hT := hT.trans (if_neg (Int.not_le.mpr c6))
        refine pm_iconst (v := 1) hC dX11_isSound_15 ?_
        refine pm_goto (tgt := 20) hC dX11_isSound_16 (by decide) ?_
        exact pm_iret hC hR (pm_narZ (by omega)) ⟨1, rfl, ⟨by omega, by omega, by omega⟩, rfl, hT⟩ dX11_isSound_20
    · skip
      replace hT := hT.trans (if_neg (by rw [e2]; decide))
      refine pm_getf (v := 51) hC 0 fl_X11_35 rfl rfl (by decide) rfl e2 dX11_isSound_6 ?_
      obtain ⟨y7, e8⟩ : ∃ y, V0 51 0 = y := ⟨_, rfl⟩
      have b9 := hV0.get 51 0 (lo := 0) (hi := 9) (by decide) (by decide) rfl
      rw [e8] at b9
      replace hT := hT.trans (pf_let_eq e8)
      refine pm_getf (v := y7) hC 51 fl_X11_136 rfl rfl (by decide) rfl e8 dX11_isSound_9 ?_
      refine pm_icmp_ge (tgt := 19) hC ⟨by omega, by omega⟩ ⟨by omega, by omega⟩ dX11_isSound_12 (by decide) (fun c10 => ?_) (fun c10 => ?_)
      · skip
        replace hT := hT.trans (if_pos c10)
        refine pm_iconst (v := 0) hC dX11_isSound_19 ?_
        exact pm_iret hC hR (pm_narZ (by omega)) ⟨0, rfl, ⟨by omega, by omega, by omega⟩, rfl, hT⟩ dX11_isSound_20
      · skip
        replace hT := hT.trans (if_neg (Int.not_le.mpr c10))
        refine pm_iconst (v := 1) hC dX11_isSound_15 ?_
        refine pm_goto (tgt := 20) hC dX11_isSound_16 (by decide) ?_
        exact pm_iret hC hR (pm_narZ (by omega)) ⟨1, rfl, ⟨by omega, by omega, by omega⟩, rfl, hT⟩ dX11_isSound_20
set_option maxHeartbeats 4000000 in
set_option maxRecDepth 100000 in
theorem fD_X11_sound_0 (a1 a2 : Int) (h0 : (-2147483648) ≤ a1 ∧ a1 ≤ 2147483647) (h1 : (-2147483648) ≤ a2 ∧ a2 ≤ 2147483647) : pm_K 2 yX11_sound cX11_sound 3 (some .int) (fun av V => av = [(3, 0), (0, a1), (0, a2)] ∧ pm_ok 0 90 V) (fun _ V r V' => ∃ y, r = some (0, y) ∧ ((-1) ≤ y ∧ y ≤ 99) ∧ V = V' ∧ F_X11_sound a1 a2 V = (y, V)) := by
  refine pm_MT.of (by decide) ⟨Nat.le_refl _, by decide⟩ (fun av V h => by rw [h.1]; exact (by decide : pm_words [(3, 0), (0, 0), (0, 0)] ≤ 3)) ?_
  rintro X av V0 hC - hR ⟨rfl, hV0⟩
  change pm_J X 0 [(0, (3, 0)), (1, (0, a1)), (2, (0, a2))] [] 118 V0
  have hT := F_X11_sound_eq a1 a2 V0
  refine pm_aload_n hC 0 (by decide) dX11_sound_0 rfl ?_
  refine pm_iload_n hC 1 dX11_sound_1 rfl ?_
  refine pm_callV (ci := 11) (as := [(0, a1)]) (st := []) hC 0 (fD_X11_isSound_0 a1 ⟨by omega, by omega⟩) lm_X11_142 li_X11_isSound (by decide) (by decide) rfl rfl rfl (by decide) rfl rfl (Nat.le_of_ble_eq_true rfl) ⟨Nat.le_refl _, Or.inl rfl⟩ dX11_sound_2 ⟨rfl, hV0⟩ (fun r1 V2 hp3 => ?_)
  obtain ⟨y4, rfl, b5, rfl, hE6⟩ := hp3
  replace hT := hT.trans (pf_call_eq hE6)
  change pm_J X 5 [(0, (3, 0)), (1, (0, a1)), (2, (0, a2))] [(0, y4)] 118 V0
  refine pm_if_ne (tgt := 10) hC ⟨by omega, by omega⟩ dX11_sound_5 (by decide) (fun c7 => ?_) (fun c7 => ?_)
  · skip
    replace hT := hT.trans (if_pos c7)
    refine pm_iload_n hC 2 dX11_sound_10 rfl ?_
    rcases (show (a2 < 0 ∨ 2 < a2) ∨ a2 = (0 : Int) ∨ a2 = (1 : Int) ∨ a2 = (2 : Int) by omega) with c8 | c8 | c8 | c8
    · skip
      refine pm_tableOut (tgt := 66) hC ⟨by omega, by omega⟩ dX11_sound_11 c8 (by decide) ?_
      replace hT := hT.trans (if_pos c8)
      refine pm_iconst (v := (-1)) hC dX11_sound_66 ?_
      exact pm_iret hC hR pm_nar0 ⟨(-1), rfl, ⟨by omega, by omega⟩, rfl, hT⟩ dX11_sound_67
    · skip
      refine pm_tableIn (tgt := 36) (off := 25) hC ⟨by omega, by omega⟩ dX11_sound_11 (by omega) (by omega) (by rw [c8]; rfl) (by decide) ?_
      replace hT := hT.trans (if_neg (by omega))
      replace hT := hT.trans (if_pos c8)
      refine pm_aload_n hC 0 (by decide) dX11_sound_36 rfl ?_
      rcases hV0.get2 0 8 (lo := 45) (hi := 51) (by decide) (by decide) rfl with e9 | e9
      · skip
        replace hT := hT.trans (if_pos e9)
        refine pm_getf (v := 45) hC 0 fl_X11_35 rfl rfl (by decide) rfl e9 dX11_sound_37 ?_
        have e10 : V0 45 1 = 46 := hV0.one 45 1 (by decide) (by decide) rfl
        refine pm_getf (v := 46) hC 45 fl_X11_146 rfl rfl (by decide) rfl e10 dX11_sound_40 ?_
        refine pm_iload_n hC 1 dX11_sound_43 rfl ?_
        obtain ⟨y11, e12⟩ : ∃ y, V0 46 (a1 : Int).toNat = y := ⟨_, rfl⟩
        replace hT := hT.trans (pf_let_eq e12)
        have b13 := hV0.get 46 (a1 : Int).toNat (lo := 0) (hi := 99) (by decide) (show _ < 9 by omega) rfl
        rw [e12] at b13
        refine pm_iaload (len := 9) (v := y11) hC 46 rfl rfl (by decide) ⟨by omega, by omega⟩ (by decide) e12 dX11_sound_44 ?_
        exact pm_iret hC hR pm_nar0 ⟨y11, rfl, ⟨by omega, by omega⟩, rfl, hT⟩ dX11_sound_45
      · skip
        replace hT := hT.trans (if_neg (by rw [e9]; decide))
        refine pm_getf (v := 51) hC 0 fl_X11_35 rfl rfl (by decide) rfl e9 dX11_sound_37 ?_
        have e14 : V0 51 1 = 52 := hV0.one 51 1 (by decide) (by decide) rfl
        refine pm_getf (v := 52) hC 51 fl_X11_146 rfl rfl (by decide) rfl e14 dX11_sound_40 ?_
        refine pm_iload_n hC 1 dX11_sound_43 rfl ?_
        obtain ⟨y15, e16⟩ : ∃ y, V0 52 (a1 : Int).toNat = y := ⟨_, rfl⟩
        replace hT := hT.trans (pf_let_eq e16)
        have b17 := hV0.get 52 (a1 : Int).toNat (lo := 0) (hi := 99) (by decide) (show _ < 9 by omega) rfl
        rw [e16] at b17
        refine pm_iaload (len := 9) (v := y15) hC 52 rfl rfl (by decide) ⟨by omega, by omega⟩ (by decide) e16 dX11_sound_44 ?_
        exact pm_iret hC hR pm_nar0 ⟨y15, rfl, ⟨by omega, by omega⟩, rfl, hT⟩ dX11_sound_45
    · skip
      refine pm_tableIn (tgt := 46) (off := 35) hC ⟨by omega, by omega⟩ dX11_sound_11 (by omega) (by omega) (by rw [c8]; rfl) (by decide) ?_
      replace hT := hT.trans (if_neg (by omega))
      replace hT := hT.trans (if_neg (by omega))
      replace hT := hT.trans (if_pos c8)
      refine pm_aload_n hC 0 (by decide) dX11_sound_46 rfl ?_
      rcases hV0.get2 0 8 (lo := 45) (hi := 51) (by decide) (by decide) rfl with e18 | e18
      · skip
        replace hT := hT.trans (if_pos e18)
        refine pm_getf (v := 45) hC 0 fl_X11_35 rfl rfl (by decide) rfl e18 dX11_sound_47 ?_
        have e19 : V0 45 2 = 47 := hV0.one 45 2 (by decide) (by decide) rfl
        refine pm_getf (v := 47) hC 45 fl_X11_150 rfl rfl (by decide) rfl e19 dX11_sound_50 ?_
        refine pm_iload_n hC 1 dX11_sound_53 rfl ?_
        obtain ⟨y20, e21⟩ : ∃ y, V0 47 (a1 : Int).toNat = y := ⟨_, rfl⟩
        replace hT := hT.trans (pf_let_eq e21)
        have b22 := hV0.get 47 (a1 : Int).toNat (lo := 0) (hi := 99) (by decide) (show _ < 9 by omega) rfl
        rw [e21] at b22
        refine pm_iaload (len := 9) (v := y20) hC 47 rfl rfl (by decide) ⟨by omega, by omega⟩ (by decide) e21 dX11_sound_54 ?_
        exact pm_iret hC hR pm_nar0 ⟨y20, rfl, ⟨by omega, by omega⟩, rfl, hT⟩ dX11_sound_55
      · skip
        replace hT := hT.trans (if_neg (by rw [e18]; decide))
        refine pm_getf (v := 51) hC 0 fl_X11_35 rfl rfl (by decide) rfl e18 dX11_sound_47 ?_
        have e23 : V0 51 2 = 53 := hV0.one 51 2 (by decide) (by decide) rfl
        refine pm_getf (v := 53) hC 51 fl_X11_150 rfl rfl (by decide) rfl e23 dX11_sound_50 ?_
        refine pm_iload_n hC 1 dX11_sound_53 rfl ?_
        obtain ⟨y24, e25⟩ : ∃ y, V0 53 (a1 : Int).toNat = y := ⟨_, rfl⟩
        replace hT := hT.trans (pf_let_eq e25)
        have b26 := hV0.get 53 (a1 : Int).toNat (lo := 0) (hi := 99) (by decide) (show _ < 9 by omega) rfl
        rw [e25] at b26
        refine pm_iaload (len := 9) (v := y24) hC 53 rfl rfl (by decide) ⟨by omega, by omega⟩ (by decide) e25 dX11_sound_54 ?_
        exact pm_iret hC hR pm_nar0 ⟨y24, rfl, ⟨by omega, by omega⟩, rfl, hT⟩ dX11_sound_55
    · skip
      refine pm_tableIn (tgt := 56) (off := 45) hC ⟨by omega, by omega⟩ dX11_sound_11 (by omega) (by omega) (by rw [c8]; rfl) (by decide) ?_
      replace hT := hT.trans (if_neg (by omega))
      replace hT := hT.trans (if_neg (by omega))
      replace hT := hT.trans (if_neg (by omega))
      replace hT := hT.trans (if_pos c8)
      refine pm_aload_n hC 0 (by decide) dX11_sound_56 rfl ?_
      rcases hV0.get2 0 8 (lo := 45) (hi := 51) (by decide) (by decide) rfl with e27 | e27
      · skip
        replace hT := hT.trans (if_pos e27)
        refine pm_getf (v := 45) hC 0 fl_X11_35 rfl rfl (by decide) rfl e27 dX11_sound_57 ?_
        have e28 : V0 45 3 = 48 := hV0.one 45 3 (by decide) (by decide) rfl
        refine pm_getf (v := 48) hC 45 fl_X11_153 rfl rfl (by decide) rfl e28 dX11_sound_60 ?_
        refine pm_iload_n hC 1 dX11_sound_63 rfl ?_
        obtain ⟨y29, e30⟩ : ∃ y, V0 48 (a1 : Int).toNat = y := ⟨_, rfl⟩
        replace hT := hT.trans (pf_let_eq e30)
        have b31 := hV0.get 48 (a1 : Int).toNat (lo := 0) (hi := 9) (by decide) (show _ < 9 by omega) rfl
        rw [e30] at b31
        refine pm_iaload (len := 9) (v := y29) hC 48 rfl rfl (by decide) ⟨by omega, by omega⟩ (by decide) e30 dX11_sound_64 ?_
        exact pm_iret hC hR pm_nar0 ⟨y29, rfl, ⟨by omega, by omega⟩, rfl, hT⟩ dX11_sound_65
      · skip
        replace hT := hT.trans (if_neg (by rw [e27]; decide))
        refine pm_getf (v := 51) hC 0 fl_X11_35 rfl rfl (by decide) rfl e27 dX11_sound_57 ?_
        have e32 : V0 51 3 = 54 := hV0.one 51 3 (by decide) (by decide) rfl
        refine pm_getf (v := 54) hC 51 fl_X11_153 rfl rfl (by decide) rfl e32 dX11_sound_60 ?_
        refine pm_iload_n hC 1 dX11_sound_63 rfl ?_
        obtain ⟨y33, e34⟩ : ∃ y, V0 54 (a1 : Int).toNat = y := ⟨_, rfl⟩
        replace hT := hT.trans (pf_let_eq e34)
        have b35 := hV0.get 54 (a1 : Int).toNat (lo := 0) (hi := 9) (by decide) (show _ < 9 by omega) rfl
        rw [e34] at b35
        refine pm_iaload (len := 9) (v := y33) hC 54 rfl rfl (by decide) ⟨by omega, by omega⟩ (by decide) e34 dX11_sound_64 ?_
        exact pm_iret hC hR pm_nar0 ⟨y33, rfl, ⟨by omega, by omega⟩, rfl, hT⟩ dX11_sound_65
  · skip
    replace hT := hT.trans (if_neg (fun q => q c7))
    refine pm_iconst (v := (-1)) hC dX11_sound_8 ?_
    exact pm_iret hC hR pm_nar0 ⟨(-1), rfl, ⟨by omega, by omega⟩, rfl, hT⟩ dX11_sound_9
set_option maxHeartbeats 4000000 in
set_option maxRecDepth 100000 in
theorem fD_X11_areChanges (a1 a2 : Int) (h0 : (-2147483648) ≤ a1 ∧ a1 ≤ 2147483647) (h1 : (-2147483648) ≤ a2 ∧ a2 ≤ 2147483647) : pm_K 1 yX11_areChanges cX11_areChanges 2 (some .boolean) (fun av V => av = [(0, a1), (0, a2)] ∧ pm_ok 0 90 V) (fun _ V r V' => ∃ y, r = some (0, y) ∧ (0 ≤ y ∧ y ≤ 1 ∧ (y = 1 → ((-30) ≤ a1 ∧ a1 ≤ 30 ∧ (-30) ≤ a2 ∧ a2 ≤ 30))) ∧ V = V' ∧ F_X11_areChanges a1 a2 V = (y, V)) := by
  refine pm_MT.of (by decide) ⟨Nat.le_refl _, by decide⟩ (fun av V h => by rw [h.1]; exact (by decide : pm_words [(0, 0), (0, 0)] ≤ 2)) ?_
  rintro X av V0 hC - hR ⟨rfl, hV0⟩
  change pm_J X 0 [(0, (0, a1)), (1, (0, a2))] [] 118 V0
  have hT := F_X11_areChanges_eq a1 a2 V0
  refine pm_iload_n hC 0 dX11_areChanges_0 rfl ?_
  refine pm_bipush (v := (-30)) hC dX11_areChanges_1 (by decide) ?_
  refine pm_icmp_lt (tgt := 28) hC ⟨by omega, by omega⟩ ⟨by decide, by decide⟩ dX11_areChanges_3 (by decide) (fun c1 => ?_) (fun c1 => ?_)
  · skip
    replace hT := hT.trans (if_pos c1)
    refine pm_iconst (v := 0) hC dX11_areChanges_28 ?_
    exact pm_iret hC hR (pm_narZ (by omega)) ⟨0, rfl, ⟨by omega, by omega, by omega⟩, rfl, hT⟩ dX11_areChanges_29
  · skip
    replace hT := hT.trans (if_neg (Int.not_lt.mpr c1))
    refine pm_iload_n hC 0 dX11_areChanges_6 rfl ?_
    refine pm_bipush (v := 30) hC dX11_areChanges_7 (by decide) ?_
    refine pm_icmp_gt (tgt := 28) hC ⟨by omega, by omega⟩ ⟨by decide, by decide⟩ dX11_areChanges_9 (by decide) (fun c2 => ?_) (fun c2 => ?_)
    · skip
      replace hT := hT.trans (if_pos c2)
      refine pm_iconst (v := 0) hC dX11_areChanges_28 ?_
      exact pm_iret hC hR (pm_narZ (by omega)) ⟨0, rfl, ⟨by omega, by omega, by omega⟩, rfl, hT⟩ dX11_areChanges_29
    · skip
      replace hT := hT.trans (if_neg (Int.not_lt.mpr c2))
      refine pm_iload_n hC 1 dX11_areChanges_12 rfl ?_
      refine pm_bipush (v := (-30)) hC dX11_areChanges_13 (by decide) ?_
      refine pm_icmp_lt (tgt := 28) hC ⟨by omega, by omega⟩ ⟨by decide, by decide⟩ dX11_areChanges_15 (by decide) (fun c3 => ?_) (fun c3 => ?_)
      · skip
        replace hT := hT.trans (if_pos c3)
        refine pm_iconst (v := 0) hC dX11_areChanges_28 ?_
        exact pm_iret hC hR (pm_narZ (by omega)) ⟨0, rfl, ⟨by omega, by omega, by omega⟩, rfl, hT⟩ dX11_areChanges_29
      · skip
        replace hT := hT.trans (if_neg (Int.not_lt.mpr c3))
        refine pm_iload_n hC 1 dX11_areChanges_18 rfl ?_
        refine pm_bipush (v := 30) hC dX11_areChanges_19 (by decide) ?_
        refine pm_icmp_gt (tgt := 28) hC ⟨by omega, by omega⟩ ⟨by decide, by decide⟩ dX11_areChanges_21 (by decide) (fun c4 => ?_) (fun c4 => ?_)
        · skip
          replace hT := hT.trans (if_pos c4)
          refine pm_iconst (v := 0) hC dX11_areChanges_28 ?_
          exact pm_iret hC hR (pm_narZ (by omega)) ⟨0, rfl, ⟨by omega, by omega, by omega⟩, rfl, hT⟩ dX11_areChanges_29
        · skip
          replace hT := hT.trans (if_neg (Int.not_lt.mpr c4))
          refine pm_iconst (v := 1) hC dX11_areChanges_24 ?_
          refine pm_goto (tgt := 29) hC dX11_areChanges_25 (by decide) ?_
          exact pm_iret hC hR (pm_narZ (by omega)) ⟨1, rfl, ⟨by omega, by omega, by omega⟩, rfl, hT⟩ dX11_areChanges_29
set_option maxHeartbeats 4000000 in
set_option maxRecDepth 100000 in
theorem fD_X11_hasScene_0  : pm_K 1 yX11_hasScene cX11_hasScene 1 (some .boolean) (fun av V => av = [(3, 0)] ∧ pm_ok 0 90 V) (fun _ V r V' => ∃ y, r = some (0, y) ∧ (0 ≤ y ∧ y ≤ 1) ∧ V = V' ∧ F_X11_hasScene  V = (y, V)) := by
  refine pm_MT.of (by decide) ⟨Nat.le_refl _, by decide⟩ (fun av V h => by rw [h.1]; exact (by decide : pm_words [(3, 0)] ≤ 1)) ?_
  rintro X av V0 hC - hR ⟨rfl, hV0⟩
  change pm_J X 0 [(0, (3, 0))] [] 118 V0
  have hT := F_X11_hasScene_eq  V0
  refine pm_aload_n hC 0 (by decide) dX11_hasScene_0 rfl ?_
  rcases hV0.get2 0 8 (lo := 45) (hi := 51) (by decide) (by decide) rfl with e1 | e1
  · skip
    replace hT := hT.trans (if_pos e1)
    refine pm_getf (v := 45) hC 0 fl_X11_35 rfl rfl (by decide) rfl e1 dX11_hasScene_1 ?_
    obtain ⟨y2, e3⟩ : ∃ y, V0 45 0 = y := ⟨_, rfl⟩
    have b4 := hV0.get 45 0 (lo := 0) (hi := 9) (by decide) (by decide) rfl
    rw [e3] at b4
    replace hT := hT.trans (pf_let_eq e3)
    refine pm_getf (v := y2) hC 45 fl_X11_136 rfl rfl (by decide) rfl e3 dX11_hasScene_4 ?_
    refine pm_if_le (tgt := 14) hC ⟨by omega, by omega⟩ dX11_hasScene_7 (by decide) (fun c5 => ?_) (fun c5 => ?_)
    · skip
      replace hT := hT.trans (if_pos c5)
      refine pm_iconst (v := 0) hC dX11_hasScene_14 ?_
      exact pm_iret hC hR (pm_narZ (by omega)) ⟨0, rfl, ⟨by omega, by omega⟩, rfl, hT⟩ dX11_hasScene_15
    · skip
      replace hT := hT.trans (if_neg (Int.not_le.mpr c5))
      refine pm_iconst (v := 1) hC dX11_hasScene_10 ?_
      refine pm_goto (tgt := 15) hC dX11_hasScene_11 (by decide) ?_
      exact pm_iret hC hR (pm_narZ (by omega)) ⟨1, rfl, ⟨by omega, by omega⟩, rfl, hT⟩ dX11_hasScene_15
  · skip
    replace hT := hT.trans (if_neg (by rw [e1]; decide))
    refine pm_getf (v := 51) hC 0 fl_X11_35 rfl rfl (by decide) rfl e1 dX11_hasScene_1 ?_
    obtain ⟨y6, e7⟩ : ∃ y, V0 51 0 = y := ⟨_, rfl⟩
    have b8 := hV0.get 51 0 (lo := 0) (hi := 9) (by decide) (by decide) rfl
    rw [e7] at b8
    replace hT := hT.trans (pf_let_eq e7)
    refine pm_getf (v := y6) hC 51 fl_X11_136 rfl rfl (by decide) rfl e7 dX11_hasScene_4 ?_
    refine pm_if_le (tgt := 14) hC ⟨by omega, by omega⟩ dX11_hasScene_7 (by decide) (fun c9 => ?_) (fun c9 => ?_)
    · skip
      replace hT := hT.trans (if_pos c9)
      refine pm_iconst (v := 0) hC dX11_hasScene_14 ?_
      exact pm_iret hC hR (pm_narZ (by omega)) ⟨0, rfl, ⟨by omega, by omega⟩, rfl, hT⟩ dX11_hasScene_15
    · skip
      replace hT := hT.trans (if_neg (Int.not_le.mpr c9))
      refine pm_iconst (v := 1) hC dX11_hasScene_10 ?_
      refine pm_goto (tgt := 15) hC dX11_hasScene_11 (by decide) ?_
      exact pm_iret hC hR (pm_narZ (by omega)) ⟨1, rfl, ⟨by omega, by omega⟩, rfl, hT⟩ dX11_hasScene_15
set_option maxHeartbeats 4000000 in
set_option maxRecDepth 100000 in
theorem fD_X11_isBelief (a1 : Int) (h0 : (-2147483648) ≤ a1 ∧ a1 ≤ 2147483647) : pm_K 1 yX11_isBelief cX11_isBelief 1 (some .boolean) (fun av V => av = [(0, a1)] ∧ pm_ok 0 90 V) (fun _ V r V' => ∃ y, r = some (0, y) ∧ (0 ≤ y ∧ y ≤ 1 ∧ (y = 1 → (0 ≤ a1 ∧ a1 ≤ 16))) ∧ V = V' ∧ F_X11_isBelief a1 V = (y, V)) := by
  refine pm_MT.of (by decide) ⟨Nat.le_refl _, by decide⟩ (fun av V h => by rw [h.1]; exact (by decide : pm_words [(0, 0)] ≤ 1)) ?_
  rintro X av V0 hC - hR ⟨rfl, hV0⟩
  change pm_J X 0 [(0, (0, a1))] [] 118 V0
  have hT := F_X11_isBelief_eq a1 V0
  refine pm_iload_n hC 0 dX11_isBelief_0 rfl ?_
  refine pm_if_lt (tgt := 14) hC ⟨by omega, by omega⟩ dX11_isBelief_1 (by decide) (fun c1 => ?_) (fun c1 => ?_)
  · skip
    replace hT := hT.trans (if_pos c1)
    refine pm_iconst (v := 0) hC dX11_isBelief_14 ?_
    exact pm_iret hC hR (pm_narZ (by omega)) ⟨0, rfl, ⟨by omega, by omega, by omega⟩, rfl, hT⟩ dX11_isBelief_15
  · skip
    replace hT := hT.trans (if_neg (Int.not_lt.mpr c1))
    refine pm_iload_n hC 0 dX11_isBelief_4 rfl ?_
    refine pm_bipush (v := 16) hC dX11_isBelief_5 (by decide) ?_
    refine pm_icmp_gt (tgt := 14) hC ⟨by omega, by omega⟩ ⟨by decide, by decide⟩ dX11_isBelief_7 (by decide) (fun c2 => ?_) (fun c2 => ?_)
    · skip
      replace hT := hT.trans (if_pos c2)
      refine pm_iconst (v := 0) hC dX11_isBelief_14 ?_
      exact pm_iret hC hR (pm_narZ (by omega)) ⟨0, rfl, ⟨by omega, by omega, by omega⟩, rfl, hT⟩ dX11_isBelief_15
    · skip
      replace hT := hT.trans (if_neg (Int.not_lt.mpr c2))
      refine pm_iconst (v := 1) hC dX11_isBelief_10 ?_
      refine pm_goto (tgt := 15) hC dX11_isBelief_11 (by decide) ?_
      exact pm_iret hC hR (pm_narZ (by omega)) ⟨1, rfl, ⟨by omega, by omega, by omega⟩, rfl, hT⟩ dX11_isBelief_15
set_option maxHeartbeats 4000000 in
set_option maxRecDepth 100000 in
theorem fD_X7_changePerson_4 (a1 a2 a3 a4 : Int) (h0 : 0 ≤ a1 ∧ a1 ≤ 9) (h1 : (-30) ≤ a2 ∧ a2 ≤ 30) (h2 : (-30) ≤ a3 ∧ a3 ≤ 30) (h3 : 0 ≤ a4 ∧ a4 ≤ 16) : pm_K 1 yX7_changePerson cX7_changePerson 5 none (fun av V => av = [(3, 4), (0, a1), (0, a2), (0, a3), (0, a4)] ∧ pm_ok 0 90 V) (fun _ V r V' => r = none ∧ pm_ok 0 90 V' ∧ pm_ff [5, 6, 7] [] V V' ∧ F_X7_changePerson a1 a2 a3 a4 V = (0, V')) := by
  refine pm_MT.of (by decide) ⟨Nat.le_refl _, by decide⟩ (fun av V h => by rw [h.1]; exact (by decide : pm_words [(3, 0), (0, 0), (0, 0), (0, 0), (0, 0)] ≤ 5)) ?_
  rintro X av V0 hC - hR ⟨rfl, hV0⟩
  change pm_J X 0 [(0, (3, 4)), (1, (0, a1)), (2, (0, a2)), (3, (0, a3)), (4, (0, a4))] [] 118 V0
  have hT := F_X7_changePerson_eq a1 a2 a3 a4 V0
  refine pm_aload_n hC 0 (by decide) dX7_changePerson_0 rfl ?_
  have e1 : V0 4 2 = 5 := hV0.one 4 2 (by decide) (by decide) rfl
  refine pm_getf (v := 5) hC 4 fl_X7_19 rfl rfl (by decide) rfl e1 dX7_changePerson_1 ?_
  refine pm_iload_n hC 1 dX7_changePerson_4 rfl ?_
  refine pm_iload_n hC 2 dX7_changePerson_5 rfl ?_
  refine pm_iastore (len := 10) hC 5 rfl rfl (by decide) ⟨by omega, by omega⟩ (by decide) dX7_changePerson_6 ?_
  refine pm_aload_n hC 0 (by decide) dX7_changePerson_7 rfl ?_
  have e2 : V0 4 3 = 6 := hV0.one 4 3 (by decide) (by decide) rfl
  refine pm_getf (v := 6) hC 4 fl_X7_23 rfl rfl (by decide) rfl e2 dX7_changePerson_8 ?_
  refine pm_iload_n hC 1 dX7_changePerson_11 rfl ?_
  refine pm_iload_n hC 3 dX7_changePerson_12 rfl ?_
  refine pm_iastore (len := 10) hC 6 rfl rfl (by decide) ⟨by omega, by omega⟩ (by decide) dX7_changePerson_13 ?_
  refine pm_aload_n hC 0 (by decide) dX7_changePerson_14 rfl ?_
  have e3 : V0 4 4 = 7 := hV0.one 4 4 (by decide) (by decide) rfl
  refine pm_getf (v := 7) hC 4 fl_X7_26 rfl rfl (by decide) rfl e3 dX7_changePerson_15 ?_
  refine pm_iload_n hC 1 dX7_changePerson_18 rfl ?_
  refine pm_iload hC 4 dX7_changePerson_19 rfl ?_
  refine pm_iastore (len := 10) hC 7 rfl rfl (by decide) ⟨by omega, by omega⟩ (by decide) dX7_changePerson_21 ?_
  exact pm_vret hC hR ⟨rfl, (((hV0.put 5 (a1 : Int).toNat (x := a2) (lo := (-30)) (hi := 30) rfl ⟨by omega, by omega⟩).put 6 (a1 : Int).toNat (x := a3) (lo := (-30)) (hi := 30) rfl ⟨by omega, by omega⟩).put 7 (a1 : Int).toNat (x := a4) (lo := 0) (hi := 16) rfl ⟨by omega, by omega⟩), ((((pm_ff.rf (cs := [5, 6, 7]) (fs := []) (V := V0)).upa 5 (a1 : Int).toNat a2 rfl).upa 6 (a1 : Int).toNat a3 rfl).upa 7 (a1 : Int).toNat a4 rfl), hT⟩ dX7_changePerson_22
set_option maxHeartbeats 4000000 in
set_option maxRecDepth 100000 in
theorem fD_X7_addPerson_4 (a1 a2 a3 a4 : Int) (h0 : (-30) ≤ a1 ∧ a1 ≤ 30) (h1 : (-30) ≤ a2 ∧ a2 ≤ 30) (h2 : 0 ≤ a3 ∧ a3 ≤ 16) (h3 : 0 ≤ a4 ∧ a4 ≤ 3) : pm_K 2 yX7_addPerson cX7_addPerson 5 (some .int) (fun av V => av = [(3, 4), (0, a1), (0, a2), (0, a3), (0, a4)] ∧ pm_ok 0 90 V) (fun _ V r V' => ∃ y, r = some (0, y) ∧ ((-1) ≤ y ∧ y ≤ 9) ∧ pm_ok 0 90 V' ∧ pm_ff [5, 6, 7, 8] [(4, 1)] V V' ∧ (V 4 1 < 10 → V' 4 1 = V 4 1 + 1) ∧ F_X7_addPerson a1 a2 a3 a4 V = (y, V')) := by
  refine pm_MT.of (by decide) ⟨Nat.le_refl _, by decide⟩ (fun av V h => by rw [h.1]; exact (by decide : pm_words [(3, 0), (0, 0), (0, 0), (0, 0), (0, 0)] ≤ 5)) ?_
  rintro X av V0 hC - hR ⟨rfl, hV0⟩
  change pm_J X 0 [(0, (3, 4)), (1, (0, a1)), (2, (0, a2)), (3, (0, a3)), (4, (0, a4))] [] 118 V0
  have hT := F_X7_addPerson_eq a1 a2 a3 a4 V0
  obtain ⟨y1, e2⟩ : ∃ y, V0 4 1 = y := ⟨_, rfl⟩
  have b3 := hV0.get 4 1 (lo := 0) (hi := 10) (by decide) (by decide) rfl
  rw [e2] at b3
  replace hT := hT.trans (pf_let_eq e2)
  refine pm_aload_n hC 0 (by decide) dX7_addPerson_0 rfl ?_
  refine pm_getf (v := y1) hC 4 fl_X7_15 rfl rfl (by decide) rfl e2 dX7_addPerson_1 ?_
  refine pm_bipush (v := 10) hC dX7_addPerson_4 (by decide) ?_
  refine pm_icmp_lt (tgt := 11) hC ⟨by omega, by omega⟩ ⟨by decide, by decide⟩ dX7_addPerson_6 (by decide) (fun c4 => ?_) (fun c4 => ?_)
  · skip
    replace hT := hT.trans (if_pos c4)
    refine pm_aload_n hC 0 (by decide) dX7_addPerson_11 rfl ?_
    have e5 : V0 4 5 = 8 := hV0.one 4 5 (by decide) (by decide) rfl
    refine pm_getf (v := 8) hC 4 fl_X7_29 rfl rfl (by decide) rfl e5 dX7_addPerson_12 ?_
    refine pm_aload_n hC 0 (by decide) dX7_addPerson_15 rfl ?_
    refine pm_getf (v := y1) hC 4 fl_X7_15 rfl rfl (by decide) rfl e2 dX7_addPerson_16 ?_
    refine pm_iload hC 4 dX7_addPerson_19 rfl ?_
    refine pm_iastore (len := 10) hC 8 rfl rfl (by decide) ⟨by omega, by omega⟩ (by decide) dX7_addPerson_21 ?_
    refine pm_aload_n hC 0 (by decide) dX7_addPerson_22 rfl ?_
    refine pm_aload_n hC 0 (by decide) dX7_addPerson_23 rfl ?_
    refine pm_getf (v := y1) hC 4 fl_X7_15 rfl rfl (by decide) rfl e2 dX7_addPerson_24 ?_
    refine pm_iload_n hC 1 dX7_addPerson_27 rfl ?_
    refine pm_iload_n hC 2 dX7_addPerson_28 rfl ?_
    refine pm_iload_n hC 3 dX7_addPerson_29 rfl ?_
    refine pm_callV (ci := 7) (as := [(0, y1), (0, a1), (0, a2), (0, a3)]) (st := []) hC 4 (fD_X7_changePerson_4 y1 a1 a2 a3 ⟨by omega, by omega⟩ ⟨by omega, by omega⟩ ⟨by omega, by omega⟩ ⟨by omega, by omega⟩) lm_X7_55 li_X7_changePerson (by decide) (by decide) rfl rfl rfl (by decide) rfl rfl (Nat.le_of_ble_eq_true rfl) ⟨Nat.le_refl _, Or.inl rfl⟩ dX7_addPerson_30 ⟨rfl, (hV0.put 8 (y1 : Int).toNat (x := a4) (lo := 0) (hi := 3) rfl ⟨by omega, by omega⟩)⟩ (fun r6 V7 hp8 => ?_)
    obtain ⟨rfl, hV9, hF10, hE11⟩ := hp8
    replace hT := hT.trans (pf_call_eq hE11)
    change pm_J X 33 [(0, (3, 4)), (1, (0, a1)), (2, (0, a2)), (3, (0, a3)), (4, (0, a4))] [] 118 V7
    have hF12 := pm_ff.tr ((pm_ff.rf (cs := [5, 6, 7, 8]) (fs := [(4, 1)]) (V := V0)).upa 8 (y1 : Int).toNat a4 rfl) hF10 (by decide) (by decide)
    have e13 : V7 4 1 = y1 := by rw [hF10 4 1 (by decide) (by decide)]; exact e2
    have e14 : V7 4 5 = 8 := by rw [hF10 4 5 (by decide) (by decide)]; exact e5
    refine pm_aload_n hC 0 (by decide) dX7_addPerson_33 rfl ?_
    refine pm_dup hC rfl dX7_addPerson_34 ?_
    refine pm_getf (v := y1) hC 4 fl_X7_15 rfl rfl (by decide) rfl e13 dX7_addPerson_35 ?_
    refine pm_iconst (v := 1) hC dX7_addPerson_38 ?_
    refine pm_iadd hC dX7_addPerson_39 ?_
    refine pm_putf hC 4 fl_X7_15 rfl rfl rfl (by decide) rfl trivial dX7_addPerson_40 ?_
    refine pm_aload_n hC 0 (by decide) dX7_addPerson_43 rfl ?_
    refine pm_getf (v := (y1 + 1)) hC 4 fl_X7_15 rfl rfl (by decide) rfl rfl dX7_addPerson_44 ?_
    refine pm_iconst (v := 1) hC dX7_addPerson_47 ?_
    refine pm_isub hC dX7_addPerson_48 ?_
    exact pm_iret hC hR pm_nar0 ⟨((y1 + 1) - 1), rfl, ⟨by omega, by omega⟩, (hV9.put 4 1 (x := (y1 + 1)) (lo := 0) (hi := 10) rfl ⟨by omega, by omega⟩), (hF12.upf 4 1 (y1 + 1) rfl), (fun _ => by rw [e2]; exact pm_up_s), hT⟩ dX7_addPerson_49
  · skip
    replace hT := hT.trans (if_neg (Int.not_lt.mpr c4))
    refine pm_iconst (v := (-1)) hC dX7_addPerson_9 ?_
    exact pm_iret hC hR pm_nar0 ⟨(-1), rfl, ⟨by omega, by omega⟩, hV0, (pm_ff.rf (cs := [5, 6, 7, 8]) (fs := [(4, 1)]) (V := V0)), (fun q => by exfalso; rw [e2] at q; omega), hT⟩ dX7_addPerson_10
set_option maxHeartbeats 4000000 in
set_option maxRecDepth 100000 in
theorem fD_X11_person_0 (a1 a2 a3 : Int) (h0 : (-2147483648) ≤ a1 ∧ a1 ≤ 2147483647) (h1 : (-2147483648) ≤ a2 ∧ a2 ≤ 2147483647) (h2 : (-2147483648) ≤ a3 ∧ a3 ≤ 2147483647) : pm_K 3 yX11_person cX11_person 5 (some .int) (fun av V => av = [(3, 0), (0, a1), (0, a2), (0, a3)] ∧ pm_ok 0 90 V) (fun _ V r V' => ∃ y, r = some (0, y) ∧ ((-1) ≤ y ∧ y ≤ 9) ∧ pm_ok 0 90 V' ∧ pm_ff [5, 6, 7, 8] [(4, 1)] V V' ∧ F_X11_person a1 a2 a3 V = (y, V')) := by
  refine pm_MT.of (by decide) ⟨Nat.le_refl _, by decide⟩ (fun av V h => by rw [h.1]; exact (by decide : pm_words [(3, 0), (0, 0), (0, 0), (0, 0)] ≤ 5)) ?_
  rintro X av V0 hC - hR ⟨rfl, hV0⟩
  change pm_J X 0 [(0, (3, 0)), (1, (0, a1)), (2, (0, a2)), (3, (0, a3))] [] 118 V0
  have hT := F_X11_person_eq a1 a2 a3 V0
  refine pm_iload_n hC 1 dX11_person_0 rfl ?_
  refine pm_iload_n hC 2 dX11_person_1 rfl ?_
  refine pm_callS (as := [(0, a1), (0, a2)]) (st := []) hC (fD_X11_areChanges a1 a2 ⟨by omega, by omega⟩ ⟨by omega, by omega⟩) lm_X11_172 ls_X11_areChanges (by decide) (by decide) rfl rfl (Nat.le_of_ble_eq_true rfl) ⟨Nat.le_refl _, Or.inl rfl⟩ dX11_person_2 ⟨rfl, hV0⟩ (fun r1 V2 hp3 => ?_)
  obtain ⟨y4, rfl, b5, rfl, hE6⟩ := hp3
  replace hT := hT.trans (pf_call_eq hE6)
  change pm_J X 5 [(0, (3, 0)), (1, (0, a1)), (2, (0, a2)), (3, (0, a3))] [(0, y4)] 118 V0
  refine pm_if_eq (tgt := 34) hC ⟨by omega, by omega⟩ dX11_person_5 (by decide) (fun c7 => ?_) (fun c7 => ?_)
  · skip
    replace hT := hT.trans (if_pos c7)
    refine pm_iconst (v := 0) hC dX11_person_34 ?_
    refine pm_istore (lv' := [(4, (0, 0)), (0, (3, 0)), (1, (0, a1)), (2, (0, a2)), (3, (0, a3))]) hC dX11_person_35 (by decide) rfl ?_
    refine pm_aload_n hC 1 (by decide) dX11_person_37 rfl ?_
    refine pm_callV (ci := 11) (as := []) (st := []) hC 0 fD_X11_hasScene_0 lm_X11_165 li_X11_hasScene (by decide) (by decide) rfl rfl rfl (by decide) rfl rfl (Nat.le_of_ble_eq_true rfl) ⟨Nat.le_refl _, Or.inl rfl⟩ dX11_person_38 ⟨rfl, hV0⟩ (fun r8 V9 hp10 => ?_)
    obtain ⟨y11, rfl, b12, rfl, hE13⟩ := hp10
    replace hT := hT.trans (pf_call_eq hE13)
    change pm_J X 41 [(4, (0, 0)), (0, (3, 0)), (1, (0, a1)), (2, (0, a2)), (3, (0, a3))] [(0, y11)] 118 V0
    refine pm_if_eq (tgt := 61) hC ⟨by omega, by omega⟩ dX11_person_41 (by decide) (fun c14 => ?_) (fun c14 => ?_)
    · skip
      replace hT := hT.trans (if_pos c14)
      refine pm_iconst (v := (-1)) hC dX11_person_61 ?_
      exact pm_iret hC hR pm_nar0 ⟨(-1), rfl, ⟨by omega, by omega⟩, hV0, (pm_ff.rf (cs := [5, 6, 7, 8]) (fs := [(4, 1)]) (V := V0)), hT⟩ dX11_person_62
    · skip
      replace hT := hT.trans (if_neg c14)
      refine pm_iload hC 0 dX11_person_44 rfl ?_
      refine pm_if_eq (tgt := 61) hC ⟨by decide, by decide⟩ dX11_person_46 (by decide) (fun c15 => ?_) (fun c15 => ?_)
      · skip
        refine pm_iconst (v := (-1)) hC dX11_person_61 ?_
        exact pm_iret hC hR pm_nar0 ⟨(-1), rfl, ⟨by omega, by omega⟩, hV0, (pm_ff.rf (cs := [5, 6, 7, 8]) (fs := [(4, 1)]) (V := V0)), hT⟩ dX11_person_62
      · skip
        exfalso; omega
  · skip
    replace hT := hT.trans (if_neg c7)
    refine pm_iload_n hC 3 dX11_person_8 rfl ?_
    refine pm_if_lt (tgt := 34) hC ⟨by omega, by omega⟩ dX11_person_9 (by decide) (fun c16 => ?_) (fun c16 => ?_)
    · skip
      replace hT := hT.trans (if_pos c16)
      refine pm_iconst (v := 0) hC dX11_person_34 ?_
      refine pm_istore (lv' := [(4, (0, 0)), (0, (3, 0)), (1, (0, a1)), (2, (0, a2)), (3, (0, a3))]) hC dX11_person_35 (by decide) rfl ?_
      refine pm_aload_n hC 1 (by decide) dX11_person_37 rfl ?_
      refine pm_callV (ci := 11) (as := []) (st := []) hC 0 fD_X11_hasScene_0 lm_X11_165 li_X11_hasScene (by decide) (by decide) rfl rfl rfl (by decide) rfl rfl (Nat.le_of_ble_eq_true rfl) ⟨Nat.le_refl _, Or.inl rfl⟩ dX11_person_38 ⟨rfl, hV0⟩ (fun r17 V18 hp19 => ?_)
      obtain ⟨y20, rfl, b21, rfl, hE22⟩ := hp19
      replace hT := hT.trans (pf_call_eq hE22)
      change pm_J X 41 [(4, (0, 0)), (0, (3, 0)), (1, (0, a1)), (2, (0, a2)), (3, (0, a3))] [(0, y20)] 118 V0
      refine pm_if_eq (tgt := 61) hC ⟨by omega, by omega⟩ dX11_person_41 (by decide) (fun c23 => ?_) (fun c23 => ?_)
      · skip
        replace hT := hT.trans (if_pos c23)
        refine pm_iconst (v := (-1)) hC dX11_person_61 ?_
        exact pm_iret hC hR pm_nar0 ⟨(-1), rfl, ⟨by omega, by omega⟩, hV0, (pm_ff.rf (cs := [5, 6, 7, 8]) (fs := [(4, 1)]) (V := V0)), hT⟩ dX11_person_62
      · skip
        replace hT := hT.trans (if_neg c23)
        refine pm_iload hC 0 dX11_person_44 rfl ?_
        refine pm_if_eq (tgt := 61) hC ⟨by decide, by decide⟩ dX11_person_46 (by decide) (fun c24 => ?_) (fun c24 => ?_)
        · skip
          refine pm_iconst (v := (-1)) hC dX11_person_61 ?_
          exact pm_iret hC hR pm_nar0 ⟨(-1), rfl, ⟨by omega, by omega⟩, hV0, (pm_ff.rf (cs := [5, 6, 7, 8]) (fs := [(4, 1)]) (V := V0)), hT⟩ dX11_person_62
        · skip
          exfalso; omega
    · skip
      replace hT := hT.trans (if_neg (Int.not_lt.mpr c16))
      refine pm_iload_n hC 3 dX11_person_12 rfl ?_
      refine pm_bipush (v := 100) hC dX11_person_13 (by decide) ?_
      refine pm_idiv hC ⟨by omega, by omega, by omega⟩ ⟨by decide, by decide, by decide⟩ dX11_person_15 ?_
      refine pm_iconst (v := 3) hC dX11_person_16 ?_
      refine pm_icmp_gt (tgt := 34) hC ⟨by omega, by omega⟩ ⟨by decide, by decide⟩ dX11_person_17 (by decide) (fun c25 => ?_) (fun c25 => ?_)
      · skip
        replace hT := hT.trans (if_pos c25)
        refine pm_iconst (v := 0) hC dX11_person_34 ?_
        refine pm_istore (lv' := [(4, (0, 0)), (0, (3, 0)), (1, (0, a1)), (2, (0, a2)), (3, (0, a3))]) hC dX11_person_35 (by decide) rfl ?_
        refine pm_aload_n hC 1 (by decide) dX11_person_37 rfl ?_
        refine pm_callV (ci := 11) (as := []) (st := []) hC 0 fD_X11_hasScene_0 lm_X11_165 li_X11_hasScene (by decide) (by decide) rfl rfl rfl (by decide) rfl rfl (Nat.le_of_ble_eq_true rfl) ⟨Nat.le_refl _, Or.inl rfl⟩ dX11_person_38 ⟨rfl, hV0⟩ (fun r26 V27 hp28 => ?_)
        obtain ⟨y29, rfl, b30, rfl, hE31⟩ := hp28
        replace hT := hT.trans (pf_call_eq hE31)
        change pm_J X 41 [(4, (0, 0)), (0, (3, 0)), (1, (0, a1)), (2, (0, a2)), (3, (0, a3))] [(0, y29)] 118 V0
        refine pm_if_eq (tgt := 61) hC ⟨by omega, by omega⟩ dX11_person_41 (by decide) (fun c32 => ?_) (fun c32 => ?_)
        · skip
          replace hT := hT.trans (if_pos c32)
          refine pm_iconst (v := (-1)) hC dX11_person_61 ?_
          exact pm_iret hC hR pm_nar0 ⟨(-1), rfl, ⟨by omega, by omega⟩, hV0, (pm_ff.rf (cs := [5, 6, 7, 8]) (fs := [(4, 1)]) (V := V0)), hT⟩ dX11_person_62
        · skip
          replace hT := hT.trans (if_neg c32)
          refine pm_iload hC 0 dX11_person_44 rfl ?_
          refine pm_if_eq (tgt := 61) hC ⟨by decide, by decide⟩ dX11_person_46 (by decide) (fun c33 => ?_) (fun c33 => ?_)
          · skip
            refine pm_iconst (v := (-1)) hC dX11_person_61 ?_
            exact pm_iret hC hR pm_nar0 ⟨(-1), rfl, ⟨by omega, by omega⟩, hV0, (pm_ff.rf (cs := [5, 6, 7, 8]) (fs := [(4, 1)]) (V := V0)), hT⟩ dX11_person_62
          · skip
            exfalso; omega
      · skip
        replace hT := hT.trans (if_neg (Int.not_lt.mpr c25))
        refine pm_iload_n hC 3 dX11_person_20 rfl ?_
        refine pm_bipush (v := 100) hC dX11_person_21 (by decide) ?_
        refine pm_irem hC ⟨by omega, by omega, by omega⟩ ⟨by decide, by decide, by decide⟩ dX11_person_23 ?_
        refine pm_callS (as := [(0, (a3 % 100))]) (st := []) hC (fD_X11_isBelief (a3 % 100) ⟨by omega, by omega⟩) lm_X11_176 ls_X11_isBelief (by decide) (by decide) rfl rfl (Nat.le_of_ble_eq_true rfl) ⟨Nat.le_refl _, Or.inl rfl⟩ dX11_person_24 ⟨rfl, hV0⟩ (fun r34 V35 hp36 => ?_)
        obtain ⟨y37, rfl, b38, rfl, hE39⟩ := hp36
        replace hT := hT.trans (pf_call_eq hE39)
        change pm_J X 27 [(0, (3, 0)), (1, (0, a1)), (2, (0, a2)), (3, (0, a3))] [(0, y37)] 118 V0
        refine pm_if_eq (tgt := 34) hC ⟨by omega, by omega⟩ dX11_person_27 (by decide) (fun c40 => ?_) (fun c40 => ?_)
        · skip
          replace hT := hT.trans (if_pos c40)
          refine pm_iconst (v := 0) hC dX11_person_34 ?_
          refine pm_istore (lv' := [(4, (0, 0)), (0, (3, 0)), (1, (0, a1)), (2, (0, a2)), (3, (0, a3))]) hC dX11_person_35 (by decide) rfl ?_
          refine pm_aload_n hC 1 (by decide) dX11_person_37 rfl ?_
          refine pm_callV (ci := 11) (as := []) (st := []) hC 0 fD_X11_hasScene_0 lm_X11_165 li_X11_hasScene (by decide) (by decide) rfl rfl rfl (by decide) rfl rfl (Nat.le_of_ble_eq_true rfl) ⟨Nat.le_refl _, Or.inl rfl⟩ dX11_person_38 ⟨rfl, hV0⟩ (fun r41 V42 hp43 => ?_)
          obtain ⟨y44, rfl, b45, rfl, hE46⟩ := hp43
          replace hT := hT.trans (pf_call_eq hE46)
          change pm_J X 41 [(4, (0, 0)), (0, (3, 0)), (1, (0, a1)), (2, (0, a2)), (3, (0, a3))] [(0, y44)] 118 V0
          refine pm_if_eq (tgt := 61) hC ⟨by omega, by omega⟩ dX11_person_41 (by decide) (fun c47 => ?_) (fun c47 => ?_)
          · skip
            replace hT := hT.trans (if_pos c47)
            refine pm_iconst (v := (-1)) hC dX11_person_61 ?_
            exact pm_iret hC hR pm_nar0 ⟨(-1), rfl, ⟨by omega, by omega⟩, hV0, (pm_ff.rf (cs := [5, 6, 7, 8]) (fs := [(4, 1)]) (V := V0)), hT⟩ dX11_person_62
          · skip
            replace hT := hT.trans (if_neg c47)
            refine pm_iload hC 0 dX11_person_44 rfl ?_
            refine pm_if_eq (tgt := 61) hC ⟨by decide, by decide⟩ dX11_person_46 (by decide) (fun c48 => ?_) (fun c48 => ?_)
            · skip
              refine pm_iconst (v := (-1)) hC dX11_person_61 ?_
              exact pm_iret hC hR pm_nar0 ⟨(-1), rfl, ⟨by omega, by omega⟩, hV0, (pm_ff.rf (cs := [5, 6, 7, 8]) (fs := [(4, 1)]) (V := V0)), hT⟩ dX11_person_62
            · skip
              exfalso; omega
        · skip
          replace hT := hT.trans (if_neg c40)
          refine pm_iconst (v := 1) hC dX11_person_30 ?_
          refine pm_goto (tgt := 35) hC dX11_person_31 (by decide) ?_
          refine pm_istore (lv' := [(4, (0, 1)), (0, (3, 0)), (1, (0, a1)), (2, (0, a2)), (3, (0, a3))]) hC dX11_person_35 (by decide) rfl ?_
          refine pm_aload_n hC 1 (by decide) dX11_person_37 rfl ?_
          refine pm_callV (ci := 11) (as := []) (st := []) hC 0 fD_X11_hasScene_0 lm_X11_165 li_X11_hasScene (by decide) (by decide) rfl rfl rfl (by decide) rfl rfl (Nat.le_of_ble_eq_true rfl) ⟨Nat.le_refl _, Or.inl rfl⟩ dX11_person_38 ⟨rfl, hV0⟩ (fun r49 V50 hp51 => ?_)
          obtain ⟨y52, rfl, b53, rfl, hE54⟩ := hp51
          replace hT := hT.trans (pf_call_eq hE54)
          change pm_J X 41 [(4, (0, 1)), (0, (3, 0)), (1, (0, a1)), (2, (0, a2)), (3, (0, a3))] [(0, y52)] 118 V0
          refine pm_if_eq (tgt := 61) hC ⟨by omega, by omega⟩ dX11_person_41 (by decide) (fun c55 => ?_) (fun c55 => ?_)
          · skip
            replace hT := hT.trans (if_pos c55)
            refine pm_iconst (v := (-1)) hC dX11_person_61 ?_
            exact pm_iret hC hR pm_nar0 ⟨(-1), rfl, ⟨by omega, by omega⟩, hV0, (pm_ff.rf (cs := [5, 6, 7, 8]) (fs := [(4, 1)]) (V := V0)), hT⟩ dX11_person_62
          · skip
            replace hT := hT.trans (if_neg c55)
            refine pm_iload hC 0 dX11_person_44 rfl ?_
            refine pm_if_eq (tgt := 61) hC ⟨by decide, by decide⟩ dX11_person_46 (by decide) (fun c56 => ?_) (fun c56 => ?_)
            · skip
              exfalso; omega
            · skip
              refine pm_aload_n hC 1 (by decide) dX11_person_49 rfl ?_
              have e57 : V0 0 3 = 4 := hV0.one 0 3 (by decide) (by decide) rfl
              refine pm_getf (v := 4) hC 0 fl_X11_24 rfl rfl (by decide) rfl e57 dX11_person_50 ?_
              obtain ⟨y58, e59⟩ : ∃ y, V0 4 1 = y := ⟨_, rfl⟩
              have b60 := hV0.get 4 1 (lo := 0) (hi := 10) (by decide) (by decide) rfl
              rw [e59] at b60
              replace hT := hT.trans (pf_let_eq e59)
              refine pm_getf (v := y58) hC 4 fl_X11_159 rfl rfl (by decide) rfl e59 dX11_person_53 ?_
              refine pm_bipush (v := 10) hC dX11_person_56 (by decide) ?_
              refine pm_icmp_lt (tgt := 63) hC ⟨by omega, by omega⟩ ⟨by decide, by decide⟩ dX11_person_58 (by decide) (fun c61 => ?_) (fun c61 => ?_)
              · skip
                replace hT := hT.trans (if_pos c61)
                refine pm_aload_n hC 1 (by decide) dX11_person_63 rfl ?_
                refine pm_getf (v := 4) hC 0 fl_X11_24 rfl rfl (by decide) rfl e57 dX11_person_64 ?_
                refine pm_iload_n hC 2 dX11_person_67 rfl ?_
                refine pm_iload_n hC 3 dX11_person_68 rfl ?_
                refine pm_iload_n hC 4 dX11_person_69 rfl ?_
                refine pm_bipush (v := 100) hC dX11_person_70 (by decide) ?_
                refine pm_irem hC ⟨by omega, by omega, by omega⟩ ⟨by decide, by decide, by decide⟩ dX11_person_72 ?_
                refine pm_iload_n hC 4 dX11_person_73 rfl ?_
                refine pm_bipush (v := 100) hC dX11_person_74 (by decide) ?_
                refine pm_idiv hC ⟨by omega, by omega, by omega⟩ ⟨by decide, by decide, by decide⟩ dX11_person_76 ?_
                refine pm_callV (ci := 7) (as := [(0, a1), (0, a2), (0, (a3 % 100)), (0, (a3 / 100))]) (st := []) hC 4 (fD_X7_addPerson_4 a1 a2 (a3 % 100) (a3 / 100) ⟨by omega, by omega⟩ ⟨by omega, by omega⟩ ⟨by omega, by omega⟩ ⟨by omega, by omega⟩) lm_X11_179 li_X7_addPerson (by decide) (by decide) rfl rfl rfl (by decide) rfl rfl (Nat.le_of_ble_eq_true rfl) ⟨Nat.le_refl _, Or.inl rfl⟩ dX11_person_77 ⟨rfl, hV0⟩ (fun r62 V63 hp64 => ?_)
                obtain ⟨y65, rfl, b66, hV67, hF68, hxp69, hE70⟩ := hp64
                replace hT := hT.trans (pf_call_eq hE70)
                change pm_J X 80 [(4, (0, 1)), (0, (3, 0)), (1, (0, a1)), (2, (0, a2)), (3, (0, a3))] [(0, y65)] 118 V63
                have hF71 := pm_ff.tr (pm_ff.rf (cs := [5, 6, 7, 8]) (fs := [(4, 1)]) (V := V0)) hF68 (by decide) (by decide)
                have e72 : V63 0 3 = 4 := by rw [hF68 0 3 (by decide) (by decide)]; exact e57
                exact pm_iret hC hR pm_nar0 ⟨y65, rfl, ⟨by omega, by omega⟩, hV67, hF71, hT⟩ dX11_person_80
              · skip
                replace hT := hT.trans (if_neg (Int.not_lt.mpr c61))
                refine pm_iconst (v := (-1)) hC dX11_person_61 ?_
                exact pm_iret hC hR pm_nar0 ⟨(-1), rfl, ⟨by omega, by omega⟩, hV0, (pm_ff.rf (cs := [5, 6, 7, 8]) (fs := [(4, 1)]) (V := V0)), hT⟩ dX11_person_62
set_option maxHeartbeats 4000000 in
set_option maxRecDepth 100000 in
theorem fD_X11_isPerson_0 (a1 : Int) (h0 : (-2147483648) ≤ a1 ∧ a1 ≤ 2147483647) : pm_K 1 yX11_isPerson cX11_isPerson 2 (some .boolean) (fun av V => av = [(3, 0), (0, a1)] ∧ pm_ok 0 90 V) (fun _ V r V' => ∃ y, r = some (0, y) ∧ (0 ≤ y ∧ y ≤ 1 ∧ (y = 1 → (0 ≤ a1 ∧ a1 ≤ 9))) ∧ V = V' ∧ F_X11_isPerson a1 V = (y, V)) := by
  refine pm_MT.of (by decide) ⟨Nat.le_refl _, by decide⟩ (fun av V h => by rw [h.1]; exact (by decide : pm_words [(3, 0), (0, 0)] ≤ 2)) ?_
  rintro X av V0 hC - hR ⟨rfl, hV0⟩
  change pm_J X 0 [(0, (3, 0)), (1, (0, a1))] [] 118 V0
  have hT := F_X11_isPerson_eq a1 V0
  refine pm_iload_n hC 1 dX11_isPerson_0 rfl ?_
  refine pm_if_lt (tgt := 19) hC ⟨by omega, by omega⟩ dX11_isPerson_1 (by decide) (fun c1 => ?_) (fun c1 => ?_)
  · skip
    replace hT := hT.trans (if_pos c1)
    refine pm_iconst (v := 0) hC dX11_isPerson_19 ?_
    exact pm_iret hC hR (pm_narZ (by omega)) ⟨0, rfl, ⟨by omega, by omega, by omega⟩, rfl, hT⟩ dX11_isPerson_20
  · skip
    replace hT := hT.trans (if_neg (Int.not_lt.mpr c1))
    refine pm_iload_n hC 1 dX11_isPerson_4 rfl ?_
    refine pm_aload_n hC 0 (by decide) dX11_isPerson_5 rfl ?_
    have e2 : V0 0 3 = 4 := hV0.one 0 3 (by decide) (by decide) rfl
    refine pm_getf (v := 4) hC 0 fl_X11_24 rfl rfl (by decide) rfl e2 dX11_isPerson_6 ?_
    obtain ⟨y3, e4⟩ : ∃ y, V0 4 1 = y := ⟨_, rfl⟩
    have b5 := hV0.get 4 1 (lo := 0) (hi := 10) (by decide) (by decide) rfl
    rw [e4] at b5
    replace hT := hT.trans (pf_let_eq e4)
    refine pm_getf (v := y3) hC 4 fl_X11_159 rfl rfl (by decide) rfl e4 dX11_isPerson_9 ?_
    refine pm_icmp_ge (tgt := 19) hC ⟨by omega, by omega⟩ ⟨by omega, by omega⟩ dX11_isPerson_12 (by decide) (fun c6 => ?_) (fun c6 => ?_)
    · skip
      replace hT := hT.trans (if_pos c6)
      refine pm_iconst (v := 0) hC dX11_isPerson_19 ?_
      exact pm_iret hC hR (pm_narZ (by omega)) ⟨0, rfl, ⟨by omega, by omega, by omega⟩, rfl, hT⟩ dX11_isPerson_20
    · skip
      replace hT := hT.trans (if_neg (Int.not_le.mpr c6))
      refine pm_iconst (v := 1) hC dX11_isPerson_15 ?_
      refine pm_goto (tgt := 20) hC dX11_isPerson_16 (by decide) ?_
      exact pm_iret hC hR (pm_narZ (by omega)) ⟨1, rfl, ⟨by omega, by omega, by omega⟩, rfl, hT⟩ dX11_isPerson_20
set_option maxHeartbeats 4000000 in
set_option maxRecDepth 100000 in
theorem fD_X11_who_0 (a1 a2 : Int) (h0 : (-2147483648) ≤ a1 ∧ a1 ≤ 2147483647) (h1 : (-2147483648) ≤ a2 ∧ a2 ≤ 2147483647) : pm_K 2 yX11_who cX11_who 3 (some .int) (fun av V => av = [(3, 0), (0, a1), (0, a2)] ∧ pm_ok 0 90 V) (fun _ V r V' => ∃ y, r = some (0, y) ∧ ((-2147483648) ≤ y ∧ y ≤ 30) ∧ V = V' ∧ F_X11_who a1 a2 V = (y, V)) := by
  refine pm_MT.of (by decide) ⟨Nat.le_refl _, by decide⟩ (fun av V h => by rw [h.1]; exact (by decide : pm_words [(3, 0), (0, 0), (0, 0)] ≤ 3)) ?_
  rintro X av V0 hC - hR ⟨rfl, hV0⟩
  change pm_J X 0 [(0, (3, 0)), (1, (0, a1)), (2, (0, a2))] [] 118 V0
  have hT := F_X11_who_eq a1 a2 V0
  refine pm_aload_n hC 0 (by decide) dX11_who_0 rfl ?_
  refine pm_iload_n hC 1 dX11_who_1 rfl ?_
  refine pm_callV (ci := 11) (as := [(0, a1)]) (st := []) hC 0 (fD_X11_isPerson_0 a1 ⟨by omega, by omega⟩) lm_X11_183 li_X11_isPerson (by decide) (by decide) rfl rfl rfl (by decide) rfl rfl (Nat.le_of_ble_eq_true rfl) ⟨Nat.le_refl _, Or.inl rfl⟩ dX11_who_2 ⟨rfl, hV0⟩ (fun r1 V2 hp3 => ?_)
  obtain ⟨y4, rfl, b5, rfl, hE6⟩ := hp3
  replace hT := hT.trans (pf_call_eq hE6)
  change pm_J X 5 [(0, (3, 0)), (1, (0, a1)), (2, (0, a2))] [(0, y4)] 118 V0
  refine pm_if_ne (tgt := 11) hC ⟨by omega, by omega⟩ dX11_who_5 (by decide) (fun c7 => ?_) (fun c7 => ?_)
  · skip
    replace hT := hT.trans (if_pos c7)
    refine pm_iload_n hC 2 dX11_who_11 rfl ?_
    rcases (show (a2 < 0 ∨ 3 < a2) ∨ a2 = (0 : Int) ∨ a2 = (1 : Int) ∨ a2 = (2 : Int) ∨ a2 = (3 : Int) by omega) with c8 | c8 | c8 | c8 | c8
    · skip
      refine pm_tableOut (tgt := 84) hC ⟨by omega, by omega⟩ dX11_who_12 c8 (by decide) ?_
      replace hT := hT.trans (if_pos c8)
      refine pm_ldc (v := (-2147483648)) hC 3153 dX11_who_84 (by decide +kernel) ?_
      exact pm_iret hC hR pm_nar0 ⟨(-2147483648), rfl, ⟨by omega, by omega⟩, rfl, hT⟩ dX11_who_86
    · skip
      refine pm_tableIn (tgt := 44) (off := 32) hC ⟨by omega, by omega⟩ dX11_who_12 (by omega) (by omega) (by rw [c8]; rfl) (by decide) ?_
      replace hT := hT.trans (if_neg (by omega))
      replace hT := hT.trans (if_pos c8)
      refine pm_aload_n hC 0 (by decide) dX11_who_44 rfl ?_
      have e9 : V0 0 3 = 4 := hV0.one 0 3 (by decide) (by decide) rfl
      refine pm_getf (v := 4) hC 0 fl_X11_24 rfl rfl (by decide) rfl e9 dX11_who_45 ?_
      have e10 : V0 4 2 = 5 := hV0.one 4 2 (by decide) (by decide) rfl
      refine pm_getf (v := 5) hC 4 fl_X11_186 rfl rfl (by decide) rfl e10 dX11_who_48 ?_
      refine pm_iload_n hC 1 dX11_who_51 rfl ?_
      obtain ⟨y11, e12⟩ : ∃ y, V0 5 (a1 : Int).toNat = y := ⟨_, rfl⟩
      replace hT := hT.trans (pf_let_eq e12)
      have b13 := hV0.get 5 (a1 : Int).toNat (lo := (-30)) (hi := 30) (by decide) (show _ < 10 by omega) rfl
      rw [e12] at b13
      refine pm_iaload (len := 10) (v := y11) hC 5 rfl rfl (by decide) ⟨by omega, by omega⟩ (by decide) e12 dX11_who_52 ?_
      exact pm_iret hC hR pm_nar0 ⟨y11, rfl, ⟨by omega, by omega⟩, rfl, hT⟩ dX11_who_53
    · skip
      refine pm_tableIn (tgt := 54) (off := 42) hC ⟨by omega, by omega⟩ dX11_who_12 (by omega) (by omega) (by rw [c8]; rfl) (by decide) ?_
      replace hT := hT.trans (if_neg (by omega))
      replace hT := hT.trans (if_neg (by omega))
      replace hT := hT.trans (if_pos c8)
      refine pm_aload_n hC 0 (by decide) dX11_who_54 rfl ?_
      have e14 : V0 0 3 = 4 := hV0.one 0 3 (by decide) (by decide) rfl
      refine pm_getf (v := 4) hC 0 fl_X11_24 rfl rfl (by decide) rfl e14 dX11_who_55 ?_
      have e15 : V0 4 3 = 6 := hV0.one 4 3 (by decide) (by decide) rfl
      refine pm_getf (v := 6) hC 4 fl_X11_189 rfl rfl (by decide) rfl e15 dX11_who_58 ?_
      refine pm_iload_n hC 1 dX11_who_61 rfl ?_
      obtain ⟨y16, e17⟩ : ∃ y, V0 6 (a1 : Int).toNat = y := ⟨_, rfl⟩
      replace hT := hT.trans (pf_let_eq e17)
      have b18 := hV0.get 6 (a1 : Int).toNat (lo := (-30)) (hi := 30) (by decide) (show _ < 10 by omega) rfl
      rw [e17] at b18
      refine pm_iaload (len := 10) (v := y16) hC 6 rfl rfl (by decide) ⟨by omega, by omega⟩ (by decide) e17 dX11_who_62 ?_
      exact pm_iret hC hR pm_nar0 ⟨y16, rfl, ⟨by omega, by omega⟩, rfl, hT⟩ dX11_who_63
    · skip
      refine pm_tableIn (tgt := 64) (off := 52) hC ⟨by omega, by omega⟩ dX11_who_12 (by omega) (by omega) (by rw [c8]; rfl) (by decide) ?_
      replace hT := hT.trans (if_neg (by omega))
      replace hT := hT.trans (if_neg (by omega))
      replace hT := hT.trans (if_neg (by omega))
      replace hT := hT.trans (if_pos c8)
      refine pm_aload_n hC 0 (by decide) dX11_who_64 rfl ?_
      have e19 : V0 0 3 = 4 := hV0.one 0 3 (by decide) (by decide) rfl
      refine pm_getf (v := 4) hC 0 fl_X11_24 rfl rfl (by decide) rfl e19 dX11_who_65 ?_
      have e20 : V0 4 4 = 7 := hV0.one 4 4 (by decide) (by decide) rfl
      refine pm_getf (v := 7) hC 4 fl_X11_192 rfl rfl (by decide) rfl e20 dX11_who_68 ?_
      refine pm_iload_n hC 1 dX11_who_71 rfl ?_
      obtain ⟨y21, e22⟩ : ∃ y, V0 7 (a1 : Int).toNat = y := ⟨_, rfl⟩
      replace hT := hT.trans (pf_let_eq e22)
      have b23 := hV0.get 7 (a1 : Int).toNat (lo := 0) (hi := 16) (by decide) (show _ < 10 by omega) rfl
      rw [e22] at b23
      refine pm_iaload (len := 10) (v := y21) hC 7 rfl rfl (by decide) ⟨by omega, by omega⟩ (by decide) e22 dX11_who_72 ?_
      exact pm_iret hC hR pm_nar0 ⟨y21, rfl, ⟨by omega, by omega⟩, rfl, hT⟩ dX11_who_73
    · skip
      refine pm_tableIn (tgt := 74) (off := 62) hC ⟨by omega, by omega⟩ dX11_who_12 (by omega) (by omega) (by rw [c8]; rfl) (by decide) ?_
      replace hT := hT.trans (if_neg (by omega))
      replace hT := hT.trans (if_neg (by omega))
      replace hT := hT.trans (if_neg (by omega))
      replace hT := hT.trans (if_neg (by omega))
      replace hT := hT.trans (if_pos c8)
      refine pm_aload_n hC 0 (by decide) dX11_who_74 rfl ?_
      have e24 : V0 0 3 = 4 := hV0.one 0 3 (by decide) (by decide) rfl
      refine pm_getf (v := 4) hC 0 fl_X11_24 rfl rfl (by decide) rfl e24 dX11_who_75 ?_
      have e25 : V0 4 5 = 8 := hV0.one 4 5 (by decide) (by decide) rfl
      refine pm_getf (v := 8) hC 4 fl_X11_194 rfl rfl (by decide) rfl e25 dX11_who_78 ?_
      refine pm_iload_n hC 1 dX11_who_81 rfl ?_
      obtain ⟨y26, e27⟩ : ∃ y, V0 8 (a1 : Int).toNat = y := ⟨_, rfl⟩
      replace hT := hT.trans (pf_let_eq e27)
      have b28 := hV0.get 8 (a1 : Int).toNat (lo := 0) (hi := 3) (by decide) (show _ < 10 by omega) rfl
      rw [e27] at b28
      refine pm_iaload (len := 10) (v := y26) hC 8 rfl rfl (by decide) ⟨by omega, by omega⟩ (by decide) e27 dX11_who_82 ?_
      exact pm_iret hC hR pm_nar0 ⟨y26, rfl, ⟨by omega, by omega⟩, rfl, hT⟩ dX11_who_83
  · skip
    replace hT := hT.trans (if_neg (fun q => q c7))
    refine pm_ldc (v := (-2147483648)) hC 3153 dX11_who_8 (by decide +kernel) ?_
    exact pm_iret hC hR pm_nar0 ⟨(-2147483648), rfl, ⟨by omega, by omega⟩, rfl, hT⟩ dX11_who_10
set_option maxHeartbeats 4000000 in
set_option maxRecDepth 100000 in
theorem fD_X11_becomes_0 (a1 a2 a3 a4 : Int) (h0 : (-2147483648) ≤ a1 ∧ a1 ≤ 2147483647) (h1 : (-2147483648) ≤ a2 ∧ a2 ≤ 2147483647) (h2 : (-2147483648) ≤ a3 ∧ a3 ≤ 2147483647) (h3 : (-2147483648) ≤ a4 ∧ a4 ≤ 2147483647) : pm_K 2 yX11_becomes cX11_becomes 5 (some .boolean) (fun av V => av = [(3, 0), (0, a1), (0, a2), (0, a3), (0, a4)] ∧ pm_ok 0 90 V) (fun _ V r V' => ∃ y, r = some (0, y) ∧ (0 ≤ y ∧ y ≤ 1) ∧ pm_ok 0 90 V' ∧ pm_ff [5, 6, 7] [] V V' ∧ F_X11_becomes a1 a2 a3 a4 V = (y, V')) := by
  refine pm_MT.of (by decide) ⟨Nat.le_refl _, by decide⟩ (fun av V h => by rw [h.1]; exact (by decide : pm_words [(3, 0), (0, 0), (0, 0), (0, 0), (0, 0)] ≤ 5)) ?_
  rintro X av V0 hC - hR ⟨rfl, hV0⟩
  change pm_J X 0 [(0, (3, 0)), (1, (0, a1)), (2, (0, a2)), (3, (0, a3)), (4, (0, a4))] [] 118 V0
  have hT := F_X11_becomes_eq a1 a2 a3 a4 V0
  refine pm_aload_n hC 0 (by decide) dX11_becomes_0 rfl ?_
  refine pm_iload_n hC 1 dX11_becomes_1 rfl ?_
  refine pm_callV (ci := 11) (as := [(0, a1)]) (st := []) hC 0 (fD_X11_isPerson_0 a1 ⟨by omega, by omega⟩) lm_X11_183 li_X11_isPerson (by decide) (by decide) rfl rfl rfl (by decide) rfl rfl (Nat.le_of_ble_eq_true rfl) ⟨Nat.le_refl _, Or.inl rfl⟩ dX11_becomes_2 ⟨rfl, hV0⟩ (fun r1 V2 hp3 => ?_)
  obtain ⟨y4, rfl, b5, rfl, hE6⟩ := hp3
  replace hT := hT.trans (pf_call_eq hE6)
  change pm_J X 5 [(0, (3, 0)), (1, (0, a1)), (2, (0, a2)), (3, (0, a3)), (4, (0, a4))] [(0, y4)] 118 V0
  refine pm_if_eq (tgt := 24) hC ⟨by omega, by omega⟩ dX11_becomes_5 (by decide) (fun c7 => ?_) (fun c7 => ?_)
  · skip
    replace hT := hT.trans (if_pos c7)
    refine pm_iconst (v := 0) hC dX11_becomes_24 ?_
    exact pm_iret hC hR (pm_narZ (by omega)) ⟨0, rfl, ⟨by omega, by omega⟩, hV0, (pm_ff.rf (cs := [5, 6, 7]) (fs := []) (V := V0)), hT⟩ dX11_becomes_25
  · skip
    replace hT := hT.trans (if_neg c7)
    refine pm_iload_n hC 2 dX11_becomes_8 rfl ?_
    refine pm_iload_n hC 3 dX11_becomes_9 rfl ?_
    refine pm_callS (as := [(0, a2), (0, a3)]) (st := []) hC (fD_X11_areChanges a2 a3 ⟨by omega, by omega⟩ ⟨by omega, by omega⟩) lm_X11_172 ls_X11_areChanges (by decide) (by decide) rfl rfl (Nat.le_of_ble_eq_true rfl) ⟨Nat.le_refl _, Or.inl rfl⟩ dX11_becomes_10 ⟨rfl, hV0⟩ (fun r8 V9 hp10 => ?_)
    obtain ⟨y11, rfl, b12, rfl, hE13⟩ := hp10
    replace hT := hT.trans (pf_call_eq hE13)
    change pm_J X 13 [(0, (3, 0)), (1, (0, a1)), (2, (0, a2)), (3, (0, a3)), (4, (0, a4))] [(0, y11)] 118 V0
    refine pm_if_eq (tgt := 24) hC ⟨by omega, by omega⟩ dX11_becomes_13 (by decide) (fun c14 => ?_) (fun c14 => ?_)
    · skip
      replace hT := hT.trans (if_pos c14)
      refine pm_iconst (v := 0) hC dX11_becomes_24 ?_
      exact pm_iret hC hR (pm_narZ (by omega)) ⟨0, rfl, ⟨by omega, by omega⟩, hV0, (pm_ff.rf (cs := [5, 6, 7]) (fs := []) (V := V0)), hT⟩ dX11_becomes_25
    · skip
      replace hT := hT.trans (if_neg c14)
      refine pm_iload hC 4 dX11_becomes_16 rfl ?_
      refine pm_callS (as := [(0, a4)]) (st := []) hC (fD_X11_isBelief a4 ⟨by omega, by omega⟩) lm_X11_176 ls_X11_isBelief (by decide) (by decide) rfl rfl (Nat.le_of_ble_eq_true rfl) ⟨Nat.le_refl _, Or.inl rfl⟩ dX11_becomes_18 ⟨rfl, hV0⟩ (fun r15 V16 hp17 => ?_)
      obtain ⟨y18, rfl, b19, rfl, hE20⟩ := hp17
      replace hT := hT.trans (pf_call_eq hE20)
      change pm_J X 21 [(0, (3, 0)), (1, (0, a1)), (2, (0, a2)), (3, (0, a3)), (4, (0, a4))] [(0, y18)] 118 V0
      refine pm_if_ne (tgt := 26) hC ⟨by omega, by omega⟩ dX11_becomes_21 (by decide) (fun c21 => ?_) (fun c21 => ?_)
      · skip
        replace hT := hT.trans (if_pos c21)
        refine pm_aload_n hC 0 (by decide) dX11_becomes_26 rfl ?_
        have e22 : V0 0 3 = 4 := hV0.one 0 3 (by decide) (by decide) rfl
        refine pm_getf (v := 4) hC 0 fl_X11_24 rfl rfl (by decide) rfl e22 dX11_becomes_27 ?_
        refine pm_iload_n hC 1 dX11_becomes_30 rfl ?_
        refine pm_iload_n hC 2 dX11_becomes_31 rfl ?_
        refine pm_iload_n hC 3 dX11_becomes_32 rfl ?_
        refine pm_iload hC 4 dX11_becomes_33 rfl ?_
        refine pm_callV (ci := 7) (as := [(0, a1), (0, a2), (0, a3), (0, a4)]) (st := []) hC 4 (fD_X7_changePerson_4 a1 a2 a3 a4 ⟨by omega, by omega⟩ ⟨by omega, by omega⟩ ⟨by omega, by omega⟩ ⟨by omega, by omega⟩) lm_X11_197 li_X7_changePerson (by decide) (by decide) rfl rfl rfl (by decide) rfl rfl (Nat.le_of_ble_eq_true rfl) ⟨Nat.le_refl _, Or.inl rfl⟩ dX11_becomes_35 ⟨rfl, hV0⟩ (fun r23 V24 hp25 => ?_)
        obtain ⟨rfl, hV26, hF27, hE28⟩ := hp25
        replace hT := hT.trans (pf_call_eq hE28)
        change pm_J X 38 [(0, (3, 0)), (1, (0, a1)), (2, (0, a2)), (3, (0, a3)), (4, (0, a4))] [] 118 V24
        have hF29 := pm_ff.tr (pm_ff.rf (cs := [5, 6, 7]) (fs := []) (V := V0)) hF27 (by decide) (by decide)
        have e30 : V24 0 3 = 4 := by rw [hF27 0 3 (by decide) (by decide)]; exact e22
        refine pm_iconst (v := 1) hC dX11_becomes_38 ?_
        exact pm_iret hC hR (pm_narZ (by omega)) ⟨1, rfl, ⟨by omega, by omega⟩, hV26, hF29, hT⟩ dX11_becomes_39
      · skip
        replace hT := hT.trans (if_neg (fun q => q c21))
        refine pm_iconst (v := 0) hC dX11_becomes_24 ?_
        exact pm_iret hC hR (pm_narZ (by omega)) ⟨0, rfl, ⟨by omega, by omega⟩, hV0, (pm_ff.rf (cs := [5, 6, 7]) (fs := []) (V := V0)), hT⟩ dX11_becomes_25
set_option maxHeartbeats 4000000 in
set_option maxRecDepth 100000 in
theorem fD_X11_isLaw (a1 : Int) (h0 : (-2147483648) ≤ a1 ∧ a1 ≤ 2147483647) : pm_K 1 yX11_isLaw cX11_isLaw 1 (some .boolean) (fun av V => av = [(0, a1)] ∧ pm_ok 0 90 V) (fun _ V r V' => ∃ y, r = some (0, y) ∧ (0 ≤ y ∧ y ≤ 1 ∧ (y = 1 → (0 ≤ a1 ∧ a1 ≤ 6))) ∧ V = V' ∧ F_X11_isLaw a1 V = (y, V)) := by
  refine pm_MT.of (by decide) ⟨Nat.le_refl _, by decide⟩ (fun av V h => by rw [h.1]; exact (by decide : pm_words [(0, 0)] ≤ 1)) ?_
  rintro X av V0 hC - hR ⟨rfl, hV0⟩
  change pm_J X 0 [(0, (0, a1))] [] 118 V0
  have hT := F_X11_isLaw_eq a1 V0
  refine pm_iload_n hC 0 dX11_isLaw_0 rfl ?_
  refine pm_if_lt (tgt := 14) hC ⟨by omega, by omega⟩ dX11_isLaw_1 (by decide) (fun c1 => ?_) (fun c1 => ?_)
  · skip
    replace hT := hT.trans (if_pos c1)
    refine pm_iconst (v := 0) hC dX11_isLaw_14 ?_
    exact pm_iret hC hR (pm_narZ (by omega)) ⟨0, rfl, ⟨by omega, by omega, by omega⟩, rfl, hT⟩ dX11_isLaw_15
  · skip
    replace hT := hT.trans (if_neg (Int.not_lt.mpr c1))
    refine pm_iload_n hC 0 dX11_isLaw_4 rfl ?_
    refine pm_bipush (v := 7) hC dX11_isLaw_5 (by decide) ?_
    refine pm_icmp_ge (tgt := 14) hC ⟨by omega, by omega⟩ ⟨by decide, by decide⟩ dX11_isLaw_7 (by decide) (fun c2 => ?_) (fun c2 => ?_)
    · skip
      replace hT := hT.trans (if_pos c2)
      refine pm_iconst (v := 0) hC dX11_isLaw_14 ?_
      exact pm_iret hC hR (pm_narZ (by omega)) ⟨0, rfl, ⟨by omega, by omega, by omega⟩, rfl, hT⟩ dX11_isLaw_15
    · skip
      replace hT := hT.trans (if_neg (Int.not_le.mpr c2))
      refine pm_iconst (v := 1) hC dX11_isLaw_10 ?_
      refine pm_goto (tgt := 15) hC dX11_isLaw_11 (by decide) ?_
      exact pm_iret hC hR (pm_narZ (by omega)) ⟨1, rfl, ⟨by omega, by omega, by omega⟩, rfl, hT⟩ dX11_isLaw_15
set_option maxHeartbeats 4000000 in
set_option maxRecDepth 100000 in
theorem fD_X11_isSetting (a1 : Int) (h0 : (-2147483648) ≤ a1 ∧ a1 ≤ 2147483647) : pm_K 1 yX11_isSetting cX11_isSetting 1 (some .boolean) (fun av V => av = [(0, a1)] ∧ pm_ok 0 90 V) (fun _ V r V' => ∃ y, r = some (0, y) ∧ (0 ≤ y ∧ y ≤ 1 ∧ (y = 1 → (0 ≤ a1 ∧ a1 ≤ 99))) ∧ V = V' ∧ F_X11_isSetting a1 V = (y, V)) := by
  refine pm_MT.of (by decide) ⟨Nat.le_refl _, by decide⟩ (fun av V h => by rw [h.1]; exact (by decide : pm_words [(0, 0)] ≤ 1)) ?_
  rintro X av V0 hC - hR ⟨rfl, hV0⟩
  change pm_J X 0 [(0, (0, a1))] [] 118 V0
  have hT := F_X11_isSetting_eq a1 V0
  refine pm_iload_n hC 0 dX11_isSetting_0 rfl ?_
  refine pm_if_lt (tgt := 14) hC ⟨by omega, by omega⟩ dX11_isSetting_1 (by decide) (fun c1 => ?_) (fun c1 => ?_)
  · skip
    replace hT := hT.trans (if_pos c1)
    refine pm_iconst (v := 0) hC dX11_isSetting_14 ?_
    exact pm_iret hC hR (pm_narZ (by omega)) ⟨0, rfl, ⟨by omega, by omega, by omega⟩, rfl, hT⟩ dX11_isSetting_15
  · skip
    replace hT := hT.trans (if_neg (Int.not_lt.mpr c1))
    refine pm_iload_n hC 0 dX11_isSetting_4 rfl ?_
    refine pm_bipush (v := 99) hC dX11_isSetting_5 (by decide) ?_
    refine pm_icmp_gt (tgt := 14) hC ⟨by omega, by omega⟩ ⟨by decide, by decide⟩ dX11_isSetting_7 (by decide) (fun c2 => ?_) (fun c2 => ?_)
    · skip
      replace hT := hT.trans (if_pos c2)
      refine pm_iconst (v := 0) hC dX11_isSetting_14 ?_
      exact pm_iret hC hR (pm_narZ (by omega)) ⟨0, rfl, ⟨by omega, by omega, by omega⟩, rfl, hT⟩ dX11_isSetting_15
    · skip
      replace hT := hT.trans (if_neg (Int.not_lt.mpr c2))
      refine pm_iconst (v := 1) hC dX11_isSetting_10 ?_
      refine pm_goto (tgt := 15) hC dX11_isSetting_11 (by decide) ?_
      exact pm_iret hC hR (pm_narZ (by omega)) ⟨1, rfl, ⟨by omega, by omega, by omega⟩, rfl, hT⟩ dX11_isSetting_15
set_option maxHeartbeats 4000000 in
set_option maxRecDepth 100000 in
theorem fD_X11_isLate (a1 : Int) (h0 : (-2147483648) ≤ a1 ∧ a1 ≤ 2147483647) : pm_K 1 yX11_isLate cX11_isLate 1 (some .boolean) (fun av V => av = [(0, a1)] ∧ pm_ok 0 90 V) (fun _ V r V' => ∃ y, r = some (0, y) ∧ (0 ≤ y ∧ y ≤ 1 ∧ (y = 1 → ((-99) ≤ a1 ∧ a1 ≤ 99))) ∧ V = V' ∧ F_X11_isLate a1 V = (y, V)) := by
  refine pm_MT.of (by decide) ⟨Nat.le_refl _, by decide⟩ (fun av V h => by rw [h.1]; exact (by decide : pm_words [(0, 0)] ≤ 1)) ?_
  rintro X av V0 hC - hR ⟨rfl, hV0⟩
  change pm_J X 0 [(0, (0, a1))] [] 118 V0
  have hT := F_X11_isLate_eq a1 V0
  refine pm_iload_n hC 0 dX11_isLate_0 rfl ?_
  refine pm_bipush (v := (-99)) hC dX11_isLate_1 (by decide) ?_
  refine pm_icmp_lt (tgt := 16) hC ⟨by omega, by omega⟩ ⟨by decide, by decide⟩ dX11_isLate_3 (by decide) (fun c1 => ?_) (fun c1 => ?_)
  · skip
    replace hT := hT.trans (if_pos c1)
    refine pm_iconst (v := 0) hC dX11_isLate_16 ?_
    exact pm_iret hC hR (pm_narZ (by omega)) ⟨0, rfl, ⟨by omega, by omega, by omega⟩, rfl, hT⟩ dX11_isLate_17
  · skip
    replace hT := hT.trans (if_neg (Int.not_lt.mpr c1))
    refine pm_iload_n hC 0 dX11_isLate_6 rfl ?_
    refine pm_bipush (v := 99) hC dX11_isLate_7 (by decide) ?_
    refine pm_icmp_gt (tgt := 16) hC ⟨by omega, by omega⟩ ⟨by decide, by decide⟩ dX11_isLate_9 (by decide) (fun c2 => ?_) (fun c2 => ?_)
    · skip
      replace hT := hT.trans (if_pos c2)
      refine pm_iconst (v := 0) hC dX11_isLate_16 ?_
      exact pm_iret hC hR (pm_narZ (by omega)) ⟨0, rfl, ⟨by omega, by omega, by omega⟩, rfl, hT⟩ dX11_isLate_17
    · skip
      replace hT := hT.trans (if_neg (Int.not_lt.mpr c2))
      refine pm_iconst (v := 1) hC dX11_isLate_12 ?_
      refine pm_goto (tgt := 17) hC dX11_isLate_13 (by decide) ?_
      exact pm_iret hC hR (pm_narZ (by omega)) ⟨1, rfl, ⟨by omega, by omega, by omega⟩, rfl, hT⟩ dX11_isLate_17
set_option maxHeartbeats 4000000 in
set_option maxRecDepth 100000 in
theorem fD_X11_isTrial_0 (a1 a2 a3 : Int) (h0 : (-2147483648) ≤ a1 ∧ a1 ≤ 2147483647) (h1 : (-2147483648) ≤ a2 ∧ a2 ≤ 2147483647) (h2 : (-2147483648) ≤ a3 ∧ a3 ≤ 2147483647) : pm_K 2 yX11_isTrial cX11_isTrial 5 (some .boolean) (fun av V => av = [(3, 0), (0, a1), (0, a2), (0, a3)] ∧ pm_ok 0 90 V) (fun _ V r V' => ∃ y, r = some (0, y) ∧ (0 ≤ y ∧ y ≤ 1 ∧ (y = 1 → (0 ≤ a1 ∧ a1 ≤ 999 ∧ 0 ≤ a2 ∧ a2 ≤ 99 ∧ (-99) ≤ a3 ∧ a3 ≤ 99 ∧ a1 % 10 ≤ 8 ∧ a1 / 10 % 10 ≤ 8))) ∧ V = V' ∧ F_X11_isTrial a1 a2 a3 V = (y, V)) := by
  refine pm_MT.of (by decide) ⟨Nat.le_refl _, by decide⟩ (fun av V h => by rw [h.1]; exact (by decide : pm_words [(3, 0), (0, 0), (0, 0), (0, 0)] ≤ 5)) ?_
  rintro X av V0 hC - hR ⟨rfl, hV0⟩
  change pm_J X 0 [(0, (3, 0)), (1, (0, a1)), (2, (0, a2)), (3, (0, a3))] [] 118 V0
  have hT := F_X11_isTrial_eq a1 a2 a3 V0
  refine pm_iload_n hC 1 dX11_isTrial_0 rfl ?_
  refine pm_if_lt (tgt := 44) hC ⟨by omega, by omega⟩ dX11_isTrial_1 (by decide) (fun c1 => ?_) (fun c1 => ?_)
  · skip
    replace hT := hT.trans (if_pos c1)
    refine pm_iconst (v := 0) hC dX11_isTrial_44 ?_
    refine pm_istore (lv' := [(4, (0, 0)), (0, (3, 0)), (1, (0, a1)), (2, (0, a2)), (3, (0, a3))]) hC dX11_isTrial_45 (by decide) rfl ?_
    refine pm_iload hC 0 dX11_isTrial_47 rfl ?_
    refine pm_if_eq (tgt := 70) hC ⟨by decide, by decide⟩ dX11_isTrial_49 (by decide) (fun c2 => ?_) (fun c2 => ?_)
    · skip
      refine pm_iconst (v := 0) hC dX11_isTrial_70 ?_
      exact pm_iret hC hR (pm_narZ (by omega)) ⟨0, rfl, ⟨by omega, by omega, by omega⟩, rfl, hT⟩ dX11_isTrial_71
    · skip
      exfalso; omega
  · skip
    replace hT := hT.trans (if_neg (Int.not_lt.mpr c1))
    refine pm_aload_n hC 0 (by decide) dX11_isTrial_4 rfl ?_
    refine pm_iload_n hC 1 dX11_isTrial_5 rfl ?_
    refine pm_bipush (v := 100) hC dX11_isTrial_6 (by decide) ?_
    refine pm_idiv hC ⟨by omega, by omega, by omega⟩ ⟨by decide, by decide, by decide⟩ dX11_isTrial_8 ?_
    refine pm_callV (ci := 11) (as := [(0, (a1 / 100))]) (st := []) hC 0 (fD_X11_isPerson_0 (a1 / 100) ⟨by omega, by omega⟩) lm_X11_183 li_X11_isPerson (by decide) (by decide) rfl rfl rfl (by decide) rfl rfl (Nat.le_of_ble_eq_true rfl) ⟨Nat.le_refl _, Or.inl rfl⟩ dX11_isTrial_9 ⟨rfl, hV0⟩ (fun r3 V4 hp5 => ?_)
    obtain ⟨y6, rfl, b7, rfl, hE8⟩ := hp5
    replace hT := hT.trans (pf_call_eq hE8)
    change pm_J X 12 [(0, (3, 0)), (1, (0, a1)), (2, (0, a2)), (3, (0, a3))] [(0, y6)] 118 V0
    refine pm_if_eq (tgt := 44) hC ⟨by omega, by omega⟩ dX11_isTrial_12 (by decide) (fun c9 => ?_) (fun c9 => ?_)
    · skip
      replace hT := hT.trans (if_pos c9)
      refine pm_iconst (v := 0) hC dX11_isTrial_44 ?_
      refine pm_istore (lv' := [(4, (0, 0)), (0, (3, 0)), (1, (0, a1)), (2, (0, a2)), (3, (0, a3))]) hC dX11_isTrial_45 (by decide) rfl ?_
      refine pm_iload hC 0 dX11_isTrial_47 rfl ?_
      refine pm_if_eq (tgt := 70) hC ⟨by decide, by decide⟩ dX11_isTrial_49 (by decide) (fun c10 => ?_) (fun c10 => ?_)
      · skip
        refine pm_iconst (v := 0) hC dX11_isTrial_70 ?_
        exact pm_iret hC hR (pm_narZ (by omega)) ⟨0, rfl, ⟨by omega, by omega, by omega⟩, rfl, hT⟩ dX11_isTrial_71
      · skip
        exfalso; omega
    · skip
      replace hT := hT.trans (if_neg c9)
      refine pm_aload_n hC 0 (by decide) dX11_isTrial_15 rfl ?_
      refine pm_iload_n hC 1 dX11_isTrial_16 rfl ?_
      refine pm_bipush (v := 10) hC dX11_isTrial_17 (by decide) ?_
      refine pm_idiv hC ⟨by omega, by omega, by omega⟩ ⟨by decide, by decide, by decide⟩ dX11_isTrial_19 ?_
      refine pm_bipush (v := 10) hC dX11_isTrial_20 (by decide) ?_
      refine pm_irem hC ⟨by omega, by omega, by omega⟩ ⟨by decide, by decide, by decide⟩ dX11_isTrial_22 ?_
      refine pm_callV (ci := 11) (as := [(0, ((a1 / 10) % 10))]) (st := []) hC 0 (fD_X11_isSound_0 ((a1 / 10) % 10) ⟨by omega, by omega⟩) lm_X11_142 li_X11_isSound (by decide) (by decide) rfl rfl rfl (by decide) rfl rfl (Nat.le_of_ble_eq_true rfl) ⟨Nat.le_refl _, Or.inl rfl⟩ dX11_isTrial_23 ⟨rfl, hV0⟩ (fun r11 V12 hp13 => ?_)
      obtain ⟨y14, rfl, b15, rfl, hE16⟩ := hp13
      replace hT := hT.trans (pf_call_eq hE16)
      change pm_J X 26 [(0, (3, 0)), (1, (0, a1)), (2, (0, a2)), (3, (0, a3))] [(0, y14)] 118 V0
      refine pm_if_eq (tgt := 44) hC ⟨by omega, by omega⟩ dX11_isTrial_26 (by decide) (fun c17 => ?_) (fun c17 => ?_)
      · skip
        replace hT := hT.trans (if_pos c17)
        refine pm_iconst (v := 0) hC dX11_isTrial_44 ?_
        refine pm_istore (lv' := [(4, (0, 0)), (0, (3, 0)), (1, (0, a1)), (2, (0, a2)), (3, (0, a3))]) hC dX11_isTrial_45 (by decide) rfl ?_
        refine pm_iload hC 0 dX11_isTrial_47 rfl ?_
        refine pm_if_eq (tgt := 70) hC ⟨by decide, by decide⟩ dX11_isTrial_49 (by decide) (fun c18 => ?_) (fun c18 => ?_)
        · skip
          refine pm_iconst (v := 0) hC dX11_isTrial_70 ?_
          exact pm_iret hC hR (pm_narZ (by omega)) ⟨0, rfl, ⟨by omega, by omega, by omega⟩, rfl, hT⟩ dX11_isTrial_71
        · skip
          exfalso; omega
      · skip
        replace hT := hT.trans (if_neg c17)
        refine pm_aload_n hC 0 (by decide) dX11_isTrial_29 rfl ?_
        refine pm_iload_n hC 1 dX11_isTrial_30 rfl ?_
        refine pm_bipush (v := 10) hC dX11_isTrial_31 (by decide) ?_
        refine pm_irem hC ⟨by omega, by omega, by omega⟩ ⟨by decide, by decide, by decide⟩ dX11_isTrial_33 ?_
        refine pm_callV (ci := 11) (as := [(0, (a1 % 10))]) (st := []) hC 0 (fD_X11_isSound_0 (a1 % 10) ⟨by omega, by omega⟩) lm_X11_142 li_X11_isSound (by decide) (by decide) rfl rfl rfl (by decide) rfl rfl (Nat.le_of_ble_eq_true rfl) ⟨Nat.le_refl _, Or.inl rfl⟩ dX11_isTrial_34 ⟨rfl, hV0⟩ (fun r19 V20 hp21 => ?_)
        obtain ⟨y22, rfl, b23, rfl, hE24⟩ := hp21
        replace hT := hT.trans (pf_call_eq hE24)
        change pm_J X 37 [(0, (3, 0)), (1, (0, a1)), (2, (0, a2)), (3, (0, a3))] [(0, y22)] 118 V0
        refine pm_if_eq (tgt := 44) hC ⟨by omega, by omega⟩ dX11_isTrial_37 (by decide) (fun c25 => ?_) (fun c25 => ?_)
        · skip
          replace hT := hT.trans (if_pos c25)
          refine pm_iconst (v := 0) hC dX11_isTrial_44 ?_
          refine pm_istore (lv' := [(4, (0, 0)), (0, (3, 0)), (1, (0, a1)), (2, (0, a2)), (3, (0, a3))]) hC dX11_isTrial_45 (by decide) rfl ?_
          refine pm_iload hC 0 dX11_isTrial_47 rfl ?_
          refine pm_if_eq (tgt := 70) hC ⟨by decide, by decide⟩ dX11_isTrial_49 (by decide) (fun c26 => ?_) (fun c26 => ?_)
          · skip
            refine pm_iconst (v := 0) hC dX11_isTrial_70 ?_
            exact pm_iret hC hR (pm_narZ (by omega)) ⟨0, rfl, ⟨by omega, by omega, by omega⟩, rfl, hT⟩ dX11_isTrial_71
          · skip
            exfalso; omega
        · skip
          replace hT := hT.trans (if_neg c25)
          refine pm_iconst (v := 1) hC dX11_isTrial_40 ?_
          refine pm_goto (tgt := 45) hC dX11_isTrial_41 (by decide) ?_
          refine pm_istore (lv' := [(4, (0, 1)), (0, (3, 0)), (1, (0, a1)), (2, (0, a2)), (3, (0, a3))]) hC dX11_isTrial_45 (by decide) rfl ?_
          refine pm_iload hC 0 dX11_isTrial_47 rfl ?_
          refine pm_if_eq (tgt := 70) hC ⟨by decide, by decide⟩ dX11_isTrial_49 (by decide) (fun c27 => ?_) (fun c27 => ?_)
          · skip
            exfalso; omega
          · skip
            refine pm_iload_n hC 3 dX11_isTrial_52 rfl ?_
            refine pm_callS (as := [(0, a2)]) (st := []) hC (fD_X11_isSetting a2 ⟨by omega, by omega⟩) lm_X11_297 ls_X11_isSetting (by decide) (by decide) rfl rfl (Nat.le_of_ble_eq_true rfl) ⟨Nat.le_refl _, Or.inl rfl⟩ dX11_isTrial_53 ⟨rfl, hV0⟩ (fun r28 V29 hp30 => ?_)
            obtain ⟨y31, rfl, b32, rfl, hE33⟩ := hp30
            replace hT := hT.trans (pf_call_eq hE33)
            change pm_J X 56 [(4, (0, 1)), (0, (3, 0)), (1, (0, a1)), (2, (0, a2)), (3, (0, a3))] [(0, y31)] 118 V0
            refine pm_if_eq (tgt := 70) hC ⟨by omega, by omega⟩ dX11_isTrial_56 (by decide) (fun c34 => ?_) (fun c34 => ?_)
            · skip
              replace hT := hT.trans (if_pos c34)
              refine pm_iconst (v := 0) hC dX11_isTrial_70 ?_
              exact pm_iret hC hR (pm_narZ (by omega)) ⟨0, rfl, ⟨by omega, by omega, by omega⟩, rfl, hT⟩ dX11_isTrial_71
            · skip
              replace hT := hT.trans (if_neg c34)
              refine pm_iload_n hC 4 dX11_isTrial_59 rfl ?_
              refine pm_callS (as := [(0, a3)]) (st := []) hC (fD_X11_isLate a3 ⟨by omega, by omega⟩) lm_X11_300 ls_X11_isLate (by decide) (by decide) rfl rfl (Nat.le_of_ble_eq_true rfl) ⟨Nat.le_refl _, Or.inl rfl⟩ dX11_isTrial_60 ⟨rfl, hV0⟩ (fun r35 V36 hp37 => ?_)
              obtain ⟨y38, rfl, b39, rfl, hE40⟩ := hp37
              replace hT := hT.trans (pf_call_eq hE40)
              change pm_J X 63 [(4, (0, 1)), (0, (3, 0)), (1, (0, a1)), (2, (0, a2)), (3, (0, a3))] [(0, y38)] 118 V0
              refine pm_if_eq (tgt := 70) hC ⟨by omega, by omega⟩ dX11_isTrial_63 (by decide) (fun c41 => ?_) (fun c41 => ?_)
              · skip
                replace hT := hT.trans (if_pos c41)
                refine pm_iconst (v := 0) hC dX11_isTrial_70 ?_
                exact pm_iret hC hR (pm_narZ (by omega)) ⟨0, rfl, ⟨by omega, by omega, by omega⟩, rfl, hT⟩ dX11_isTrial_71
              · skip
                replace hT := hT.trans (if_neg c41)
                refine pm_iconst (v := 1) hC dX11_isTrial_66 ?_
                refine pm_goto (tgt := 71) hC dX11_isTrial_67 (by decide) ?_
                exact pm_iret hC hR (pm_narZ (by omega)) ⟨1, rfl, ⟨by omega, by omega, by omega⟩, rfl, hT⟩ dX11_isTrial_71
set_option maxHeartbeats 4000000 in
set_option maxRecDepth 100000 in
theorem fD_X10_place_73_45 (a1 a2 : Int) (h0 : 0 ≤ a1 ∧ a1 ≤ 99) (h1 : 0 ≤ a2 ∧ a2 ≤ 99) (h2 : a1 % 10 ≤ 8 ∧ a1 / 10 ≤ 8) : pm_K 1 yX10_place cX10_place 4 none (fun av V => av = [(3, 73), (3, 45), (0, a1), (0, a2)] ∧ pm_ok 0 90 V) (fun _ V r V' => r = none ∧ pm_ok 0 90 V' ∧ pm_ff [] [(73, 0), (73, 1), (73, 2), (73, 3), (73, 4)] V V' ∧ F_X10_place 45 a1 a2 V = (0, V')) := by
  refine pm_MT.of (by decide) ⟨Nat.le_refl _, by decide⟩ (fun av V h => by rw [h.1]; exact (by decide : pm_words [(3, 0), (3, 0), (0, 0), (0, 0)] ≤ 4)) ?_
  rintro X av V0 hC - hR ⟨rfl, hV0⟩
  change pm_J X 0 [(0, (3, 73)), (1, (3, 45)), (2, (0, a1)), (3, (0, a2))] [] 118 V0
  have hT := F_X10_place_eq 45 a1 a2 V0
  refine pm_aload_n hC 0 (by decide) dX10_place_0 rfl ?_
  refine pm_aload_n hC 1 (by decide) dX10_place_1 rfl ?_
  refine pm_putf hC 73 fl_X10_59 rfl rfl rfl (by decide) rfl trivial dX10_place_2 ?_
  refine pm_aload_n hC 0 (by decide) dX10_place_5 rfl ?_
  refine pm_iload_n hC 2 dX10_place_6 rfl ?_
  refine pm_bipush (v := 10) hC dX10_place_7 (by decide) ?_
  refine pm_idiv hC ⟨by omega, by omega, by omega⟩ ⟨by decide, by decide, by decide⟩ dX10_place_9 ?_
  refine pm_putf hC 73 fl_X10_9 rfl rfl rfl (by decide) rfl trivial dX10_place_10 ?_
  refine pm_aload_n hC 0 (by decide) dX10_place_13 rfl ?_
  refine pm_iload_n hC 2 dX10_place_14 rfl ?_
  refine pm_bipush (v := 10) hC dX10_place_15 (by decide) ?_
  refine pm_irem hC ⟨by omega, by omega, by omega⟩ ⟨by decide, by decide, by decide⟩ dX10_place_17 ?_
  refine pm_putf hC 73 fl_X10_15 rfl rfl rfl (by decide) rfl trivial dX10_place_18 ?_
  refine pm_aload_n hC 0 (by decide) dX10_place_21 rfl ?_
  refine pm_iload_n hC 3 dX10_place_22 rfl ?_
  refine pm_bipush (v := 10) hC dX10_place_23 (by decide) ?_
  refine pm_idiv hC ⟨by omega, by omega, by omega⟩ ⟨by decide, by decide, by decide⟩ dX10_place_25 ?_
  refine pm_putf hC 73 fl_X10_18 rfl rfl rfl (by decide) rfl trivial dX10_place_26 ?_
  refine pm_aload_n hC 0 (by decide) dX10_place_29 rfl ?_
  refine pm_iload_n hC 3 dX10_place_30 rfl ?_
  refine pm_bipush (v := 10) hC dX10_place_31 (by decide) ?_
  refine pm_irem hC ⟨by omega, by omega, by omega⟩ ⟨by decide, by decide, by decide⟩ dX10_place_33 ?_
  refine pm_putf hC 73 fl_X10_21 rfl rfl rfl (by decide) rfl trivial dX10_place_34 ?_
  exact pm_vret hC hR ⟨rfl, (((((hV0.put2 73 0 (x := 45) (lo := 45) (hi := 51) rfl ⟨by omega, by decide⟩).put 73 1 (x := (a1 / 10)) (lo := 0) (hi := 8) rfl ⟨by omega, by omega⟩).put 73 2 (x := (a1 % 10)) (lo := 0) (hi := 8) rfl ⟨by omega, by omega⟩).put 73 3 (x := (a2 / 10)) (lo := 0) (hi := 9) rfl ⟨by omega, by omega⟩).put 73 4 (x := (a2 % 10)) (lo := 0) (hi := 9) rfl ⟨by omega, by omega⟩), ((((((pm_ff.rf (cs := []) (fs := [(73, 0), (73, 1), (73, 2), (73, 3), (73, 4)]) (V := V0)).upf 73 0 45 rfl).upf 73 1 (a1 / 10) rfl).upf 73 2 (a1 % 10) rfl).upf 73 3 (a2 / 10) rfl).upf 73 4 (a2 % 10) rfl), hT⟩ dX10_place_37
set_option maxHeartbeats 4000000 in
set_option maxRecDepth 100000 in
theorem fD_X10_farFrom_73 (a1 a2 a3 : Int) (h0 : 0 ≤ a1 ∧ a1 ≤ 8) (h1 : 0 ≤ a2 ∧ a2 ≤ 100000) (h2 : 0 ≤ a3 ∧ a3 ≤ 99) : pm_K 1 yX10_farFrom cX10_farFrom 4 (some .int) (fun av V => av = [(3, 73), (0, a1), (0, a2), (0, a3)] ∧ pm_ok 0 90 V) (fun _ V r V' => ∃ y, r = some (0, y) ∧ (0 ≤ y ∧ y ≤ 100099) ∧ V = V' ∧ F_X10_farFrom a1 a2 a3 V = (y, V)) := by
  refine pm_MT.of (by decide) ⟨Nat.le_refl _, by decide⟩ (fun av V h => by rw [h.1]; exact (by decide : pm_words [(3, 0), (0, 0), (0, 0), (0, 0)] ≤ 4)) ?_
  rintro X av V0 hC - hR ⟨rfl, hV0⟩
  change pm_J X 0 [(0, (3, 73)), (1, (0, a1)), (2, (0, a2)), (3, (0, a3))] [] 118 V0
  have hT := F_X10_farFrom_eq a1 a2 a3 V0
  refine pm_aload_n hC 0 (by decide) dX10_farFrom_0 rfl ?_
  rcases hV0.get2 73 0 (lo := 45) (hi := 51) (by decide) (by decide) rfl with e1 | e1
  · skip
    replace hT := hT.trans (if_pos e1)
    refine pm_getf (v := 45) hC 73 fl_X10_59 rfl rfl (by decide) rfl e1 dX10_farFrom_1 ?_
    have e2 : V0 45 1 = 46 := hV0.one 45 1 (by decide) (by decide) rfl
    refine pm_getf (v := 46) hC 45 fl_X10_82 rfl rfl (by decide) rfl e2 dX10_farFrom_4 ?_
    refine pm_iload_n hC 1 dX10_farFrom_7 rfl ?_
    obtain ⟨y3, e4⟩ : ∃ y, V0 46 (a1 : Int).toNat = y := ⟨_, rfl⟩
    replace hT := hT.trans (pf_let_eq e4)
    have b5 := hV0.get 46 (a1 : Int).toNat (lo := 0) (hi := 99) (by decide) (show _ < 9 by omega) rfl
    rw [e4] at b5
    refine pm_iaload (len := 9) (v := y3) hC 46 rfl rfl (by decide) ⟨by omega, by omega⟩ (by decide) e4 dX10_farFrom_8 ?_
    refine pm_iload_n hC 2 dX10_farFrom_9 rfl ?_
    refine pm_isub hC dX10_farFrom_10 ?_
    refine pm_mabsT hC 4014 4015 1018 4016 ⟨by omega, by omega⟩ (by decide) wL_X10_86 wS_mabs wI_math wC_mabs (Nat.le_of_ble_eq_true rfl) dX10_farFrom_11 (fun y6 he8 b7 => ?_)
    have b7 := And.intro b7.1.1 (And.intro b7.1.2 b7.2)
    replace hT := hT.trans (pf_let_eq he8)
    refine pm_aload_n hC 0 (by decide) dX10_farFrom_14 rfl ?_
    refine pm_getf (v := 45) hC 73 fl_X10_59 rfl rfl (by decide) rfl e1 dX10_farFrom_15 ?_
    have e9 : V0 45 2 = 47 := hV0.one 45 2 (by decide) (by decide) rfl
    refine pm_getf (v := 47) hC 45 fl_X10_93 rfl rfl (by decide) rfl e9 dX10_farFrom_18 ?_
    refine pm_iload_n hC 1 dX10_farFrom_21 rfl ?_
    obtain ⟨y10, e11⟩ : ∃ y, V0 47 (a1 : Int).toNat = y := ⟨_, rfl⟩
    replace hT := hT.trans (pf_let_eq e11)
    have b12 := hV0.get 47 (a1 : Int).toNat (lo := 0) (hi := 99) (by decide) (show _ < 9 by omega) rfl
    rw [e11] at b12
    refine pm_iaload (len := 9) (v := y10) hC 47 rfl rfl (by decide) ⟨by omega, by omega⟩ (by decide) e11 dX10_farFrom_22 ?_
    refine pm_iload_n hC 3 dX10_farFrom_23 rfl ?_
    refine pm_isub hC dX10_farFrom_24 ?_
    refine pm_mabsT hC 4014 4015 1018 4016 ⟨by omega, by omega⟩ (by decide) wL_X10_86 wS_mabs wI_math wC_mabs (Nat.le_of_ble_eq_true rfl) dX10_farFrom_25 (fun y13 he15 b14 => ?_)
    have b14 := And.intro b14.1.1 (And.intro b14.1.2 b14.2)
    replace hT := hT.trans (pf_let_eq he15)
    refine pm_iadd hC dX10_farFrom_28 ?_
    exact pm_iret hC hR pm_nar0 ⟨(y6 + y13), rfl, ⟨by omega, by omega⟩, rfl, hT⟩ dX10_farFrom_29
  · skip
    replace hT := hT.trans (if_neg (by rw [e1]; decide))
    refine pm_getf (v := 51) hC 73 fl_X10_59 rfl rfl (by decide) rfl e1 dX10_farFrom_1 ?_
    have e16 : V0 51 1 = 52 := hV0.one 51 1 (by decide) (by decide) rfl
    refine pm_getf (v := 52) hC 51 fl_X10_82 rfl rfl (by decide) rfl e16 dX10_farFrom_4 ?_
    refine pm_iload_n hC 1 dX10_farFrom_7 rfl ?_
    obtain ⟨y17, e18⟩ : ∃ y, V0 52 (a1 : Int).toNat = y := ⟨_, rfl⟩
    replace hT := hT.trans (pf_let_eq e18)
    have b19 := hV0.get 52 (a1 : Int).toNat (lo := 0) (hi := 99) (by decide) (show _ < 9 by omega) rfl
    rw [e18] at b19
    refine pm_iaload (len := 9) (v := y17) hC 52 rfl rfl (by decide) ⟨by omega, by omega⟩ (by decide) e18 dX10_farFrom_8 ?_
    refine pm_iload_n hC 2 dX10_farFrom_9 rfl ?_
    refine pm_isub hC dX10_farFrom_10 ?_
    refine pm_mabsT hC 4014 4015 1018 4016 ⟨by omega, by omega⟩ (by decide) wL_X10_86 wS_mabs wI_math wC_mabs (Nat.le_of_ble_eq_true rfl) dX10_farFrom_11 (fun y20 he22 b21 => ?_)
    have b21 := And.intro b21.1.1 (And.intro b21.1.2 b21.2)
    replace hT := hT.trans (pf_let_eq he22)
    refine pm_aload_n hC 0 (by decide) dX10_farFrom_14 rfl ?_
    refine pm_getf (v := 51) hC 73 fl_X10_59 rfl rfl (by decide) rfl e1 dX10_farFrom_15 ?_
    have e23 : V0 51 2 = 53 := hV0.one 51 2 (by decide) (by decide) rfl
    refine pm_getf (v := 53) hC 51 fl_X10_93 rfl rfl (by decide) rfl e23 dX10_farFrom_18 ?_
    refine pm_iload_n hC 1 dX10_farFrom_21 rfl ?_
    obtain ⟨y24, e25⟩ : ∃ y, V0 53 (a1 : Int).toNat = y := ⟨_, rfl⟩
    replace hT := hT.trans (pf_let_eq e25)
    have b26 := hV0.get 53 (a1 : Int).toNat (lo := 0) (hi := 99) (by decide) (show _ < 9 by omega) rfl
    rw [e25] at b26
    refine pm_iaload (len := 9) (v := y24) hC 53 rfl rfl (by decide) ⟨by omega, by omega⟩ (by decide) e25 dX10_farFrom_22 ?_
    refine pm_iload_n hC 3 dX10_farFrom_23 rfl ?_
    refine pm_isub hC dX10_farFrom_24 ?_
    refine pm_mabsT hC 4014 4015 1018 4016 ⟨by omega, by omega⟩ (by decide) wL_X10_86 wS_mabs wI_math wC_mabs (Nat.le_of_ble_eq_true rfl) dX10_farFrom_25 (fun y27 he29 b28 => ?_)
    have b28 := And.intro b28.1.1 (And.intro b28.1.2 b28.2)
    replace hT := hT.trans (pf_let_eq he29)
    refine pm_iadd hC dX10_farFrom_28 ?_
    exact pm_iret hC hR pm_nar0 ⟨(y20 + y27), rfl, ⟨by omega, by omega⟩, rfl, hT⟩ dX10_farFrom_29
set_option maxHeartbeats 4000000 in
set_option maxRecDepth 100000 in
theorem fD_X10_spread_73 (a1 a2 : Int) (h0 : (-30) ≤ a1 ∧ a1 ≤ 30) (h1 : (-30) ≤ a2 ∧ a2 ≤ 30) : pm_K 2 yX10_spread cX10_spread 9 none (fun av V => av = [(3, 73), (0, a1), (0, a2)] ∧ pm_ok 0 90 V) (fun _ V r V' => r = none ∧ pm_ok 0 90 V' ∧ pm_ff [74, 75] [(73, 5), (73, 6), (73, 10), (73, 11), (73, 12)] V V' ∧ F_X10_spread a1 a2 V = (0, V')) := by
  refine pm_MT.of (by decide) ⟨Nat.le_refl _, by decide⟩ (fun av V h => by rw [h.1]; exact (by decide : pm_words [(3, 0), (0, 0), (0, 0)] ≤ 9)) ?_
  rintro X av V0 hC - hR ⟨rfl, hV0⟩
  change pm_J X 0 [(0, (3, 73)), (1, (0, a1)), (2, (0, a2))] [] 118 V0
  have hT := F_X10_spread_eq a1 a2 V0
  refine pm_aload_n hC 0 (by decide) dX10_spread_0 rfl ?_
  refine pm_iconst (v := 1) hC dX10_spread_1 ?_
  refine pm_aload_n hC 0 (by decide) dX10_spread_2 rfl ?_
  rcases hV0.get2 73 0 (lo := 45) (hi := 51) (by decide) (by decide) rfl with e1 | e1
  · skip
    replace hT := hT.trans (if_pos e1)
    refine pm_getf (v := 45) hC 73 fl_X10_59 rfl rfl (by decide) rfl e1 dX10_spread_3 ?_
    obtain ⟨y2, e3⟩ : ∃ y, V0 45 4 = y := ⟨_, rfl⟩
    have b4 := hV0.get 45 4 (lo := 0) (hi := 60) (by decide) (by decide) rfl
    rw [e3] at b4
    replace hT := hT.trans (pf_let_eq e3)
    refine pm_getf (v := y2) hC 45 fl_X10_63 rfl rfl (by decide) rfl e3 dX10_spread_6 ?_
    refine pm_iload_n hC 1 dX10_spread_9 rfl ?_
    refine pm_iadd hC dX10_spread_10 ?_
    refine pm_aload_n hC 0 (by decide) dX10_spread_11 rfl ?_
    refine pm_getf (v := 45) hC 73 fl_X10_59 rfl rfl (by decide) rfl e1 dX10_spread_12 ?_
    obtain ⟨y5, e6⟩ : ∃ y, V0 45 5 = y := ⟨_, rfl⟩
    have b7 := hV0.get 45 5 (lo := 0) (hi := 9) (by decide) (by decide) rfl
    rw [e6] at b7
    replace hT := hT.trans (pf_let_eq e6)
    refine pm_getf (v := y5) hC 45 fl_X10_66 rfl rfl (by decide) rfl e6 dX10_spread_15 ?_
    refine pm_aload_n hC 0 (by decide) dX10_spread_18 rfl ?_
    obtain ⟨y8, e9⟩ : ∃ y, V0 73 3 = y := ⟨_, rfl⟩
    have b10 := hV0.get 73 3 (lo := 0) (hi := 9) (by decide) (by decide) rfl
    rw [e9] at b10
    replace hT := hT.trans (pf_let_eq e9)
    refine pm_getf (v := y8) hC 73 fl_X10_18 rfl rfl (by decide) rfl e9 dX10_spread_19 ?_
    refine pm_imul hC dX10_spread_22 ?_
    have b12 : 0 ≤ (y5 * y8) ∧ (y5 * y8) ≤ 81 := pm_mulb (by omega) (by omega) (show y5 ≤ 9 by omega) (show y8 ≤ 9 by omega) (by decide)
    obtain ⟨y11, hey11⟩ : ∃ z, (y5 * y8) = z := ⟨_, rfl⟩
    rw [hey11] at b12 ⊢
    replace hT := hT.trans (pf_let_eq hey11)
    refine pm_iadd hC dX10_spread_23 ?_
    refine pm_mmax hC 4011 4012 1018 4013 ⟨by decide, by decide⟩ ⟨by omega, by omega⟩ (by decide) wL_X10_69 wS_mmax wI_math wC_mmax (Nat.le_of_ble_eq_true rfl) dX10_spread_24 (fun y13 b14 => ?_)
    have he15 : pm_mx 1 ((y2 + a1) + y11) = y13 := pm_mx_of b14
    replace b14 : 1 ≤ y13 ∧ y13 ≤ 171 ∧ 1 ≤ y13 ∧ ((y2 + a1) + y11) ≤ y13 := ⟨by omega, by omega, b14.1, b14.2.1⟩
    replace hT := hT.trans (pf_let_eq he15)
    refine pm_putf hC 73 fl_X10_24 rfl rfl rfl (by decide) rfl trivial dX10_spread_27 ?_
    refine pm_aload_n hC 0 (by decide) dX10_spread_30 rfl ?_
    refine pm_iconst (v := 1) hC dX10_spread_31 ?_
    refine pm_aload_n hC 0 (by decide) dX10_spread_32 rfl ?_
    refine pm_getf (v := 45) hC 73 fl_X10_59 rfl rfl (by decide) rfl e1 dX10_spread_33 ?_
    obtain ⟨y16, e17⟩ : ∃ y, V0 45 6 = y := ⟨_, rfl⟩
    have b18 := hV0.get 45 6 (lo := 0) (hi := 60) (by decide) (by decide) rfl
    rw [e17] at b18
    replace hT := hT.trans (pf_let_eq e17)
    refine pm_getf (v := y16) hC 45 fl_X10_75 rfl rfl (by decide) rfl e17 dX10_spread_36 ?_
    refine pm_iload_n hC 2 dX10_spread_39 rfl ?_
    refine pm_iadd hC dX10_spread_40 ?_
    refine pm_aload_n hC 0 (by decide) dX10_spread_41 rfl ?_
    refine pm_getf (v := 45) hC 73 fl_X10_59 rfl rfl (by decide) rfl e1 dX10_spread_42 ?_
    obtain ⟨y19, e20⟩ : ∃ y, V0 45 7 = y := ⟨_, rfl⟩
    have b21 := hV0.get 45 7 (lo := 0) (hi := 9) (by decide) (by decide) rfl
    rw [e20] at b21
    replace hT := hT.trans (pf_let_eq e20)
    refine pm_getf (v := y19) hC 45 fl_X10_76 rfl rfl (by decide) rfl e20 dX10_spread_45 ?_
    refine pm_aload_n hC 0 (by decide) dX10_spread_48 rfl ?_
    obtain ⟨y22, e23⟩ : ∃ y, V0 73 4 = y := ⟨_, rfl⟩
    have b24 := hV0.get 73 4 (lo := 0) (hi := 9) (by decide) (by decide) rfl
    rw [e23] at b24
    replace hT := hT.trans (pf_let_eq e23)
    refine pm_getf (v := y22) hC 73 fl_X10_21 rfl rfl (by decide) rfl e23 dX10_spread_49 ?_
    refine pm_imul hC dX10_spread_52 ?_
    have b26 : 0 ≤ (y19 * y22) ∧ (y19 * y22) ≤ 81 := pm_mulb (by omega) (by omega) (show y19 ≤ 9 by omega) (show y22 ≤ 9 by omega) (by decide)
    obtain ⟨y25, hey25⟩ : ∃ z, (y19 * y22) = z := ⟨_, rfl⟩
    rw [hey25] at b26 ⊢
    replace hT := hT.trans (pf_let_eq hey25)
    refine pm_iadd hC dX10_spread_53 ?_
    refine pm_mmax hC 4011 4012 1018 4013 ⟨by decide, by decide⟩ ⟨by omega, by omega⟩ (by decide) wL_X10_69 wS_mmax wI_math wC_mmax (Nat.le_of_ble_eq_true rfl) dX10_spread_54 (fun y27 b28 => ?_)
    have he29 : pm_mx 1 ((y16 + a2) + y25) = y27 := pm_mx_of b28
    replace b28 : 1 ≤ y27 ∧ y27 ≤ 171 ∧ 1 ≤ y27 ∧ ((y16 + a2) + y25) ≤ y27 := ⟨by omega, by omega, b28.1, b28.2.1⟩
    replace hT := hT.trans (pf_let_eq he29)
    refine pm_putf hC 73 fl_X10_27 rfl rfl rfl (by decide) rfl trivial dX10_spread_57 ?_
    refine pm_aload_n hC 0 (by decide) dX10_spread_60 rfl ?_
    refine pm_lconst (x := 0) hC dX10_spread_61 rfl ?_
    refine pm_putf hC 73 fl_X10_41 rfl rfl rfl (by decide) rfl trivial dX10_spread_62 ?_
    refine pm_aload_n hC 0 (by decide) dX10_spread_65 rfl ?_
    refine pm_lconst (x := 0) hC dX10_spread_66 rfl ?_
    refine pm_putf hC 73 fl_X10_44 rfl rfl rfl (by decide) rfl trivial dX10_spread_67 ?_
    refine pm_aload_n hC 0 (by decide) dX10_spread_70 rfl ?_
    refine pm_lconst (x := 0) hC dX10_spread_71 rfl ?_
    refine pm_putf hC 73 fl_X10_47 rfl rfl rfl (by decide) rfl trivial dX10_spread_72 ?_
    refine pm_iconst (v := 0) hC dX10_spread_75 ?_
    refine pm_istore_n (lv' := [(3, (0, 0)), (0, (3, 73)), (1, (0, a1)), (2, (0, a2))]) hC dX10_spread_76 (by decide) rfl ?_
    have hV32 := (((((hV0.put 73 5 (x := y13) (lo := 1) (hi := 171) rfl ⟨by omega, by omega⟩).put 73 6 (x := y27) (lo := 1) (hi := 171) rfl ⟨by omega, by omega⟩).put 73 10 (x := 0) (lo := (-9223372036854775808)) (hi := 9223372036854775807) rfl ⟨by decide, by decide⟩).put 73 11 (x := 0) (lo := (-9223372036854775808)) (hi := 9223372036854775807) rfl ⟨by decide, by decide⟩).put 73 12 (x := 0) (lo := (-9223372036854775808)) (hi := 9223372036854775807) rfl ⟨by decide, by decide⟩)
    have hF33 := ((((((pm_ff.rf (cs := [74, 75]) (fs := [(73, 5), (73, 6), (73, 10), (73, 11), (73, 12)]) (V := V0)).upf 73 5 y13 rfl).upf 73 6 y27 rfl).upf 73 10 0 rfl).upf 73 11 0 rfl).upf 73 12 0 rfl)
    obtain ⟨V30, hv31⟩ : ∃ V, V = (pm_up (pm_up (pm_up (pm_up (pm_up V0 73 5 y13) 73 6 y27) 73 10 0) 73 11 0) 73 12 0) := ⟨_, rfl⟩
    rw [← hv31] at hV32 hF33
    rw [← hv31]
    replace hT := hT.trans (pf_let_eq hv31.symm)
    have e34 : V30 73 0 = 45 := by rw [hv31]; exact e1
    have e35 : V30 45 4 = y2 := by rw [hv31]; exact e3
    have e36 : V30 45 5 = y5 := by rw [hv31]; exact e6
    have e37 : V30 73 3 = y8 := by rw [hv31]; exact e9
    have e38 : V30 45 6 = y16 := by rw [hv31]; exact e17
    have e39 : V30 45 7 = y19 := by rw [hv31]; exact e20
    have e40 : V30 73 4 = y22 := by rw [hv31]; exact e23
    have e41 : V30 73 5 = y13 := by rw [hv31]; rfl
    have e42 : V30 73 6 = y27 := by rw [hv31]; rfl
    have e43 : V30 73 10 = 0 := by rw [hv31]; rfl
    have e44 : V30 73 11 = 0 := by rw [hv31]; rfl
    have e45 : V30 73 12 = 0 := by rw [hv31]; rfl
    obtain ⟨B60, hB61, hT⟩ := pf_loop hT
    have L63 : ∀ (N65 : Nat) (x46 : Int) (V48 : pm_M), (0 ≤ x46 ∧ x46 ≤ 9) → pm_ok 0 90 V48 → pm_ff [74, 75] [(73, 5), (73, 6), (73, 10), (73, 11), (73, 12)] V0 V48 → V48 73 0 = 45 → V48 45 4 = y2 → V48 45 5 = y5 → V48 73 3 = y8 → V48 45 6 = y16 → V48 45 7 = y19 → V48 73 4 = y22 → V48 73 5 = y13 → V48 73 6 = y27 → F_X10_spread a1 a2 V0 = pf_val ((0 : Int), V0) B60 (x46, V48) → (Int.toNat (9 - x46)) = N65 → pm_J X 77 [(0, (3, 73)), (1, (0, a1)), (2, (0, a2)), (3, (0, x46))] [] 118 V48 := by
      intro N65
      induction N65 using Nat.strongRecOn with
      | _ N65 ih66 =>
      intro x46 V48 b47 hV49 hF50 e51 e52 e53 e54 e55 e56 e57 e58 e59 hT hm64
      have hb62 := congrFun hB61 (x46, V48)
      refine pm_iload_n hC 3 dX10_spread_77 rfl ?_
      refine pm_aload_n hC 0 (by decide) dX10_spread_78 rfl ?_
      refine pm_getf (v := 45) hC 73 fl_X10_59 rfl rfl (by decide) rfl e51 dX10_spread_79 ?_
      obtain ⟨y67, e68⟩ : ∃ y, V48 45 0 = y := ⟨_, rfl⟩
      have b69 := hV49.get 45 0 (lo := 0) (hi := 9) (by decide) (by decide) rfl
      rw [e68] at b69
      replace hb62 := hb62.trans (pf_let_eq e68)
      refine pm_getf (v := y67) hC 45 fl_X10_79 rfl rfl (by decide) rfl e68 dX10_spread_82 ?_
      refine pm_icmp_ge (tgt := 238) hC ⟨by omega, by omega⟩ ⟨by omega, by omega⟩ dX10_spread_85 (by decide) (fun c70 => ?_) (fun c70 => ?_)
      · skip
        replace hb62 := hb62.trans (if_pos c70)
        have hT := hT.trans (pf_val_inr hb62)
        exact pm_vret hC hR ⟨rfl, hV49, hF50, hT⟩ dX10_spread_238
      · skip
        replace hb62 := hb62.trans (if_neg (Int.not_le.mpr c70))
        refine pm_aload_n hC 0 (by decide) dX10_spread_88 rfl ?_
        refine pm_getf (v := 45) hC 73 fl_X10_59 rfl rfl (by decide) rfl e51 dX10_spread_89 ?_
        have e71 : V48 45 1 = 46 := hV49.one 45 1 (by decide) (by decide) rfl
        refine pm_getf (v := 46) hC 45 fl_X10_82 rfl rfl (by decide) rfl e71 dX10_spread_92 ?_
        refine pm_iload_n hC 3 dX10_spread_95 rfl ?_
        obtain ⟨y72, e73⟩ : ∃ y, V48 46 (x46 : Int).toNat = y := ⟨_, rfl⟩
        replace hb62 := hb62.trans (pf_let_eq e73)
        have b74 := hV49.get 46 (x46 : Int).toNat (lo := 0) (hi := 99) (by decide) (show _ < 9 by omega) rfl
        rw [e73] at b74
        refine pm_iaload (len := 9) (v := y72) hC 46 rfl rfl (by decide) ⟨by omega, by omega⟩ (by decide) e73 dX10_spread_96 ?_
        refine pm_aload_n hC 0 (by decide) dX10_spread_97 rfl ?_
        refine pm_getf (v := 45) hC 73 fl_X10_59 rfl rfl (by decide) rfl e51 dX10_spread_98 ?_
        refine pm_getf (v := 46) hC 45 fl_X10_82 rfl rfl (by decide) rfl e71 dX10_spread_101 ?_
        refine pm_aload_n hC 0 (by decide) dX10_spread_104 rfl ?_
        obtain ⟨y75, e76⟩ : ∃ y, V48 73 2 = y := ⟨_, rfl⟩
        have b77 := hV49.get 73 2 (lo := 0) (hi := 8) (by decide) (by decide) rfl
        rw [e76] at b77
        replace hb62 := hb62.trans (pf_let_eq e76)
        refine pm_getf (v := y75) hC 73 fl_X10_15 rfl rfl (by decide) rfl e76 dX10_spread_105 ?_
        obtain ⟨y78, e79⟩ : ∃ y, V48 46 (y75 : Int).toNat = y := ⟨_, rfl⟩
        replace hb62 := hb62.trans (pf_let_eq e79)
        have b80 := hV49.get 46 (y75 : Int).toNat (lo := 0) (hi := 99) (by decide) (show _ < 9 by omega) rfl
        rw [e79] at b80
        refine pm_iaload (len := 9) (v := y78) hC 46 rfl rfl (by decide) ⟨by omega, by omega⟩ (by decide) e79 dX10_spread_108 ?_
        refine pm_isub hC dX10_spread_109 ?_
        refine pm_mabsT hC 4014 4015 1018 4016 ⟨by omega, by omega⟩ (by decide) wL_X10_86 wS_mabs wI_math wC_mabs (Nat.le_of_ble_eq_true rfl) dX10_spread_110 (fun y81 he83 b82 => ?_)
        have b82 := And.intro b82.1.1 (And.intro b82.1.2 b82.2)
        replace hb62 := hb62.trans (pf_let_eq he83)
        refine pm_istore (lv' := [(4, (0, y81)), (0, (3, 73)), (1, (0, a1)), (2, (0, a2)), (3, (0, x46))]) hC dX10_spread_113 (by decide) rfl ?_
        refine pm_aload_n hC 1 (by decide) dX10_spread_115 rfl ?_
        refine pm_getf (v := 45) hC 73 fl_X10_59 rfl rfl (by decide) rfl e51 dX10_spread_116 ?_
        have e84 : V48 45 3 = 48 := hV49.one 45 3 (by decide) (by decide) rfl
        refine pm_getf (v := 48) hC 45 fl_X10_90 rfl rfl (by decide) rfl e84 dX10_spread_119 ?_
        refine pm_iload_n hC 4 dX10_spread_122 rfl ?_
        obtain ⟨y85, e86⟩ : ∃ y, V48 48 (x46 : Int).toNat = y := ⟨_, rfl⟩
        replace hb62 := hb62.trans (pf_let_eq e86)
        have b87 := hV49.get 48 (x46 : Int).toNat (lo := 0) (hi := 9) (by decide) (show _ < 9 by omega) rfl
        rw [e86] at b87
        refine pm_iaload (len := 9) (v := y85) hC 48 rfl rfl (by decide) ⟨by omega, by omega⟩ (by decide) e86 dX10_spread_123 ?_
        refine pm_iconst (v := 0) hC dX10_spread_124 ?_
        refine pm_aload_n hC 1 (by decide) dX10_spread_125 rfl ?_
        refine pm_getf (v := y13) hC 73 fl_X10_24 rfl rfl (by decide) rfl e58 dX10_spread_126 ?_
        refine pm_aload_n hC 1 (by decide) dX10_spread_129 rfl ?_
        refine pm_iload_n hC 4 dX10_spread_130 rfl ?_
        refine pm_aload_n hC 1 (by decide) dX10_spread_131 rfl ?_
        refine pm_getf (v := 45) hC 73 fl_X10_59 rfl rfl (by decide) rfl e51 dX10_spread_132 ?_
        refine pm_getf (v := 46) hC 45 fl_X10_82 rfl rfl (by decide) rfl e71 dX10_spread_135 ?_
        refine pm_aload_n hC 1 (by decide) dX10_spread_138 rfl ?_
        obtain ⟨y88, e89⟩ : ∃ y, V48 73 1 = y := ⟨_, rfl⟩
        have b90 := hV49.get 73 1 (lo := 0) (hi := 8) (by decide) (by decide) rfl
        rw [e89] at b90
        replace hb62 := hb62.trans (pf_let_eq e89)
        refine pm_getf (v := y88) hC 73 fl_X10_9 rfl rfl (by decide) rfl e89 dX10_spread_139 ?_
        obtain ⟨y91, e92⟩ : ∃ y, V48 46 (y88 : Int).toNat = y := ⟨_, rfl⟩
        replace hb62 := hb62.trans (pf_let_eq e92)
        have b93 := hV49.get 46 (y88 : Int).toNat (lo := 0) (hi := 99) (by decide) (show _ < 9 by omega) rfl
        rw [e92] at b93
        refine pm_iaload (len := 9) (v := y91) hC 46 rfl rfl (by decide) ⟨by omega, by omega⟩ (by decide) e92 dX10_spread_142 ?_
        refine pm_aload_n hC 1 (by decide) dX10_spread_143 rfl ?_
        refine pm_getf (v := 45) hC 73 fl_X10_59 rfl rfl (by decide) rfl e51 dX10_spread_144 ?_
        have e94 : V48 45 2 = 47 := hV49.one 45 2 (by decide) (by decide) rfl
        refine pm_getf (v := 47) hC 45 fl_X10_93 rfl rfl (by decide) rfl e94 dX10_spread_147 ?_
        refine pm_aload_n hC 1 (by decide) dX10_spread_150 rfl ?_
        refine pm_getf (v := y88) hC 73 fl_X10_9 rfl rfl (by decide) rfl e89 dX10_spread_151 ?_
        obtain ⟨y95, e96⟩ : ∃ y, V48 47 (y88 : Int).toNat = y := ⟨_, rfl⟩
        replace hb62 := hb62.trans (pf_let_eq e96)
        have b97 := hV49.get 47 (y88 : Int).toNat (lo := 0) (hi := 99) (by decide) (show _ < 9 by omega) rfl
        rw [e96] at b97
        refine pm_iaload (len := 9) (v := y95) hC 47 rfl rfl (by decide) ⟨by omega, by omega⟩ (by decide) e96 dX10_spread_154 ?_
        refine pm_callV (ci := 10) (as := [(0, x46), (0, y91), (0, y95)]) (st := [(0, y13), (0, 0), (0, y85)]) hC 73 (fD_X10_farFrom_73 x46 y91 y95 ⟨by omega, by omega⟩ ⟨by omega, by omega⟩ ⟨by omega, by omega⟩) lm_X10_96 li_X10_farFrom (by decide) (by decide) rfl rfl rfl (by decide) rfl rfl (Nat.le_of_ble_eq_true rfl) ⟨Nat.le_refl _, Or.inl rfl⟩ dX10_spread_155 ⟨rfl, hV49⟩ (fun r98 V99 hp100 => ?_)
        obtain ⟨y101, rfl, b102, rfl, hE103⟩ := hp100
        replace hb62 := hb62.trans (pf_call_eq hE103)
        change pm_J X 158 [(4, (0, y81)), (0, (3, 73)), (1, (0, a1)), (2, (0, a2)), (3, (0, x46))] [(0, y101), (0, y13), (0, 0), (0, y85)] 118 V48
        refine pm_isub hC dX10_spread_158 ?_
        refine pm_mmax hC 4011 4012 1018 4013 ⟨by decide, by decide⟩ ⟨by omega, by omega⟩ (by decide) wL_X10_69 wS_mmax wI_math wC_mmax (Nat.le_of_ble_eq_true rfl) dX10_spread_159 (fun y104 b105 => ?_)
        have he106 : pm_mx 0 (y13 - y101) = y104 := pm_mx_of b105
        replace b105 : 0 ≤ y104 ∧ y104 ≤ 171 ∧ 0 ≤ y104 ∧ (y13 - y101) ≤ y104 := ⟨by omega, by omega, b105.1, b105.2.1⟩
        replace hb62 := hb62.trans (pf_let_eq he106)
        refine pm_imul hC dX10_spread_162 ?_
        have b108 : 0 ≤ (y85 * y104) ∧ (y85 * y104) ≤ 1539 := pm_mulb (by omega) (by omega) (show y85 ≤ 9 by omega) (show y104 ≤ 171 by omega) (by decide)
        obtain ⟨y107, hey107⟩ : ∃ z, (y85 * y104) = z := ⟨_, rfl⟩
        rw [hey107] at b108 ⊢
        replace hb62 := hb62.trans (pf_let_eq hey107)
        refine pm_i2l hC ⟨by omega, by omega⟩ dX10_spread_163 ?_
        refine pm_lstore (lv' := [(5, (1, y107)), (4, (0, y81)), (0, (3, 73)), (1, (0, a1)), (2, (0, a2)), (3, (0, x46))]) hC dX10_spread_164 (by decide) rfl ?_
        refine pm_iconst (v := 0) hC dX10_spread_166 ?_
        refine pm_aload_n hC 2 (by decide) dX10_spread_167 rfl ?_
        refine pm_getf (v := y27) hC 73 fl_X10_27 rfl rfl (by decide) rfl e59 dX10_spread_168 ?_
        refine pm_iload hC 1 dX10_spread_171 rfl ?_
        refine pm_isub hC dX10_spread_173 ?_
        refine pm_mmax hC 4011 4012 1018 4013 ⟨by decide, by decide⟩ ⟨by omega, by omega⟩ (by decide) wL_X10_69 wS_mmax wI_math wC_mmax (Nat.le_of_ble_eq_true rfl) dX10_spread_174 (fun y109 b110 => ?_)
        have he111 : pm_mx 0 (y27 - y81) = y109 := pm_mx_of b110
        replace b110 : 0 ≤ y109 ∧ y109 ≤ 171 ∧ 0 ≤ y109 ∧ (y27 - y81) ≤ y109 := ⟨by omega, by omega, b110.1, b110.2.1⟩
        replace hb62 := hb62.trans (pf_let_eq he111)
        refine pm_i2l hC ⟨by omega, by omega⟩ dX10_spread_177 ?_
        refine pm_lstore (lv' := [(7, (1, y109)), (5, (1, y107)), (4, (0, y81)), (0, (3, 73)), (1, (0, a1)), (2, (0, a2)), (3, (0, x46))]) hC dX10_spread_178 (by decide) rfl ?_
        refine pm_aload_n hC 3 (by decide) dX10_spread_180 rfl ?_
        have e112 : V48 73 8 = 74 := hV49.one 73 8 (by decide) (by decide) rfl
        refine pm_getf (v := 74) hC 73 fl_X10_34 rfl rfl (by decide) rfl e112 dX10_spread_181 ?_
        refine pm_iload_n hC 6 dX10_spread_184 rfl ?_
        refine pm_lload hC 1 dX10_spread_185 rfl ?_
        refine pm_lastore (len := 9) hC 74 rfl rfl (by decide) ⟨by omega, by omega⟩ (by decide) dX10_spread_187 ?_
        refine pm_aload_n hC 3 (by decide) dX10_spread_188 rfl ?_
        have e113 : V48 73 9 = 75 := hV49.one 73 9 (by decide) (by decide) rfl
        refine pm_getf (v := 75) hC 73 fl_X10_38 rfl rfl (by decide) rfl e113 dX10_spread_189 ?_
        refine pm_iload_n hC 6 dX10_spread_192 rfl ?_
        refine pm_lload hC 0 dX10_spread_193 rfl ?_
        refine pm_lastore (len := 9) hC 75 rfl rfl (by decide) ⟨by omega, by omega⟩ (by decide) dX10_spread_195 ?_
        refine pm_aload_n hC 3 (by decide) dX10_spread_196 rfl ?_
        refine pm_dup hC rfl dX10_spread_197 ?_
        obtain ⟨y114, e115⟩ : ∃ y, V48 73 10 = y := ⟨_, rfl⟩
        have b116 := hV49.get 73 10 (lo := (-9223372036854775808)) (hi := 9223372036854775807) (by decide) (by decide) rfl
        rw [e115] at b116
        replace hb62 := hb62.trans (pf_let_eq e115)
        refine pm_getf (v := y114) hC 73 fl_X10_41 rfl rfl (by decide) rfl e115 dX10_spread_198 ?_
        refine pm_lload hC 1 dX10_spread_201 rfl ?_
        refine pm_ladd hC dX10_spread_203 ?_
        refine pm_wrL hC (fun y117 hw119 b118 => ?_)
        replace hb62 := hb62.trans (pf_let_eq hw119)
        have b118 := And.intro b118.1 b118.2
        refine pm_putf hC 73 fl_X10_41 rfl rfl rfl (by decide) rfl trivial dX10_spread_204 ?_
        refine pm_aload_n hC 3 (by decide) dX10_spread_207 rfl ?_
        refine pm_dup hC rfl dX10_spread_208 ?_
        obtain ⟨y120, e121⟩ : ∃ y, V48 73 11 = y := ⟨_, rfl⟩
        have b122 := hV49.get 73 11 (lo := (-9223372036854775808)) (hi := 9223372036854775807) (by decide) (by decide) rfl
        rw [e121] at b122
        replace hb62 := hb62.trans (pf_let_eq e121)
        refine pm_getf (v := y120) hC 73 fl_X10_44 rfl rfl (by decide) rfl e121 dX10_spread_209 ?_
        refine pm_lload hC 0 dX10_spread_212 rfl ?_
        refine pm_ladd hC dX10_spread_214 ?_
        refine pm_wrL hC (fun y123 hw125 b124 => ?_)
        replace hb62 := hb62.trans (pf_let_eq hw125)
        have b124 := And.intro b124.1 b124.2
        refine pm_putf hC 73 fl_X10_44 rfl rfl rfl (by decide) rfl trivial dX10_spread_215 ?_
        refine pm_aload_n hC 3 (by decide) dX10_spread_218 rfl ?_
        refine pm_dup hC rfl dX10_spread_219 ?_
        obtain ⟨y126, e127⟩ : ∃ y, V48 73 12 = y := ⟨_, rfl⟩
        have b128 := hV49.get 73 12 (lo := (-9223372036854775808)) (hi := 9223372036854775807) (by decide) (by decide) rfl
        rw [e127] at b128
        replace hb62 := hb62.trans (pf_let_eq e127)
        refine pm_getf (v := y126) hC 73 fl_X10_47 rfl rfl (by decide) rfl e127 dX10_spread_220 ?_
        refine pm_lload hC 1 dX10_spread_223 rfl ?_
        refine pm_lload hC 0 dX10_spread_225 rfl ?_
        refine pm_lmul hC dX10_spread_227 ?_
        have b130 : 0 ≤ (y107 * y109) ∧ (y107 * y109) ≤ 263169 := pm_mulb (by omega) (by omega) (show y107 ≤ 1539 by omega) (show y109 ≤ 171 by omega) (by decide)
        obtain ⟨y129, hey129⟩ : ∃ z, (y107 * y109) = z := ⟨_, rfl⟩
        rw [hey129] at b130 ⊢
        replace hb62 := hb62.trans (pf_let_eq hey129)
        refine pm_ladd hC dX10_spread_228 ?_
        refine pm_wrL hC (fun y131 hw133 b132 => ?_)
        replace hb62 := hb62.trans (pf_let_eq hw133)
        have b132 := And.intro b132.1 b132.2
        refine pm_putf hC 73 fl_X10_47 rfl rfl rfl (by decide) rfl trivial dX10_spread_229 ?_
        obtain ⟨x134, ei135⟩ : ∃ y : Int, x46 + 1 = y := ⟨_, rfl⟩
        replace hb62 := hb62.trans (pf_let_eq ei135)
        refine pm_iinc (y := x134) (lv' := [(3, (0, x134)), (7, (1, y109)), (5, (1, y107)), (4, (0, y81)), (0, (3, 73)), (1, (0, a1)), (2, (0, a2))]) hC 6 dX10_spread_232 (by decide) rfl ei135 rfl ?_
        refine pm_goto (tgt := 77) hC dX10_spread_235 (by decide) ?_
        refine pm_lvsub [4, 5, 6, 0] (lv' := [(0, (3, 73)), (1, (0, a1)), (2, (0, a2)), (3, (0, x134))]) rfl ?_
        exact ih66 _ (by omega) x134 (pm_up (pm_up (pm_up (pm_up (pm_up V48 74 (x46 : Int).toNat y107) 75 (x46 : Int).toNat y109) 73 10 y117) 73 11 y123) 73 12 y131) ⟨by omega, by omega⟩ (((((hV49.put 74 (x46 : Int).toNat (x := y107) (lo := (-9223372036854775808)) (hi := 9223372036854775807) rfl ⟨by omega, by omega⟩).put 75 (x46 : Int).toNat (x := y109) (lo := (-9223372036854775808)) (hi := 9223372036854775807) rfl ⟨by omega, by omega⟩).put 73 10 (x := y117) (lo := (-9223372036854775808)) (hi := 9223372036854775807) rfl ⟨by omega, by omega⟩).put 73 11 (x := y123) (lo := (-9223372036854775808)) (hi := 9223372036854775807) rfl ⟨by omega, by omega⟩).put 73 12 (x := y131) (lo := (-9223372036854775808)) (hi := 9223372036854775807) rfl ⟨by omega, by omega⟩) (((((hF50.upa 74 (x46 : Int).toNat y107 rfl).upa 75 (x46 : Int).toNat y109 rfl).upf 73 10 y117 rfl).upf 73 11 y123 rfl).upf 73 12 y131 rfl) e51 e52 e53 e54 e55 e56 e57 e58 e59 (hT.trans (pf_val_inl hb62)) rfl
    refine pm_lvsub [1, 2, 3, 0] (lv' := [(0, (3, 73)), (1, (0, a1)), (2, (0, a2)), (3, (0, 0))]) rfl ?_
    exact L63 _ 0 V30 ⟨by decide, by decide⟩ hV32 hF33 e34 e35 e36 e37 e38 e39 e40 e41 e42 hT rfl
  · skip
    replace hT := hT.trans (if_neg (by rw [e1]; decide))
    refine pm_getf (v := 51) hC 73 fl_X10_59 rfl rfl (by decide) rfl e1 dX10_spread_3 ?_
    obtain ⟨y136, e137⟩ : ∃ y, V0 51 4 = y := ⟨_, rfl⟩
    have b138 := hV0.get 51 4 (lo := 0) (hi := 60) (by decide) (by decide) rfl
    rw [e137] at b138
    replace hT := hT.trans (pf_let_eq e137)
    refine pm_getf (v := y136) hC 51 fl_X10_63 rfl rfl (by decide) rfl e137 dX10_spread_6 ?_
    refine pm_iload_n hC 1 dX10_spread_9 rfl ?_
    refine pm_iadd hC dX10_spread_10 ?_
    refine pm_aload_n hC 0 (by decide) dX10_spread_11 rfl ?_
    refine pm_getf (v := 51) hC 73 fl_X10_59 rfl rfl (by decide) rfl e1 dX10_spread_12 ?_
    obtain ⟨y139, e140⟩ : ∃ y, V0 51 5 = y := ⟨_, rfl⟩
    have b141 := hV0.get 51 5 (lo := 0) (hi := 9) (by decide) (by decide) rfl
    rw [e140] at b141
    replace hT := hT.trans (pf_let_eq e140)
    refine pm_getf (v := y139) hC 51 fl_X10_66 rfl rfl (by decide) rfl e140 dX10_spread_15 ?_
    refine pm_aload_n hC 0 (by decide) dX10_spread_18 rfl ?_
    obtain ⟨y142, e143⟩ : ∃ y, V0 73 3 = y := ⟨_, rfl⟩
    have b144 := hV0.get 73 3 (lo := 0) (hi := 9) (by decide) (by decide) rfl
    rw [e143] at b144
    replace hT := hT.trans (pf_let_eq e143)
    refine pm_getf (v := y142) hC 73 fl_X10_18 rfl rfl (by decide) rfl e143 dX10_spread_19 ?_
    refine pm_imul hC dX10_spread_22 ?_
    have b146 : 0 ≤ (y139 * y142) ∧ (y139 * y142) ≤ 81 := pm_mulb (by omega) (by omega) (show y139 ≤ 9 by omega) (show y142 ≤ 9 by omega) (by decide)
    obtain ⟨y145, hey145⟩ : ∃ z, (y139 * y142) = z := ⟨_, rfl⟩
    rw [hey145] at b146 ⊢
    replace hT := hT.trans (pf_let_eq hey145)
    refine pm_iadd hC dX10_spread_23 ?_
    refine pm_mmax hC 4011 4012 1018 4013 ⟨by decide, by decide⟩ ⟨by omega, by omega⟩ (by decide) wL_X10_69 wS_mmax wI_math wC_mmax (Nat.le_of_ble_eq_true rfl) dX10_spread_24 (fun y147 b148 => ?_)
    have he149 : pm_mx 1 ((y136 + a1) + y145) = y147 := pm_mx_of b148
    replace b148 : 1 ≤ y147 ∧ y147 ≤ 171 ∧ 1 ≤ y147 ∧ ((y136 + a1) + y145) ≤ y147 := ⟨by omega, by omega, b148.1, b148.2.1⟩
    replace hT := hT.trans (pf_let_eq he149)
    refine pm_putf hC 73 fl_X10_24 rfl rfl rfl (by decide) rfl trivial dX10_spread_27 ?_
    refine pm_aload_n hC 0 (by decide) dX10_spread_30 rfl ?_
    refine pm_iconst (v := 1) hC dX10_spread_31 ?_
    refine pm_aload_n hC 0 (by decide) dX10_spread_32 rfl ?_
    refine pm_getf (v := 51) hC 73 fl_X10_59 rfl rfl (by decide) rfl e1 dX10_spread_33 ?_
    obtain ⟨y150, e151⟩ : ∃ y, V0 51 6 = y := ⟨_, rfl⟩
    have b152 := hV0.get 51 6 (lo := 0) (hi := 60) (by decide) (by decide) rfl
    rw [e151] at b152
    replace hT := hT.trans (pf_let_eq e151)
    refine pm_getf (v := y150) hC 51 fl_X10_75 rfl rfl (by decide) rfl e151 dX10_spread_36 ?_
    refine pm_iload_n hC 2 dX10_spread_39 rfl ?_
    refine pm_iadd hC dX10_spread_40 ?_
    refine pm_aload_n hC 0 (by decide) dX10_spread_41 rfl ?_
    refine pm_getf (v := 51) hC 73 fl_X10_59 rfl rfl (by decide) rfl e1 dX10_spread_42 ?_
    obtain ⟨y153, e154⟩ : ∃ y, V0 51 7 = y := ⟨_, rfl⟩
    have b155 := hV0.get 51 7 (lo := 0) (hi := 9) (by decide) (by decide) rfl
    rw [e154] at b155
    replace hT := hT.trans (pf_let_eq e154)
    refine pm_getf (v := y153) hC 51 fl_X10_76 rfl rfl (by decide) rfl e154 dX10_spread_45 ?_
    refine pm_aload_n hC 0 (by decide) dX10_spread_48 rfl ?_
    obtain ⟨y156, e157⟩ : ∃ y, V0 73 4 = y := ⟨_, rfl⟩
    have b158 := hV0.get 73 4 (lo := 0) (hi := 9) (by decide) (by decide) rfl
    rw [e157] at b158
    replace hT := hT.trans (pf_let_eq e157)
    refine pm_getf (v := y156) hC 73 fl_X10_21 rfl rfl (by decide) rfl e157 dX10_spread_49 ?_
    refine pm_imul hC dX10_spread_52 ?_
    have b160 : 0 ≤ (y153 * y156) ∧ (y153 * y156) ≤ 81 := pm_mulb (by omega) (by omega) (show y153 ≤ 9 by omega) (show y156 ≤ 9 by omega) (by decide)
    obtain ⟨y159, hey159⟩ : ∃ z, (y153 * y156) = z := ⟨_, rfl⟩
    rw [hey159] at b160 ⊢
    replace hT := hT.trans (pf_let_eq hey159)
    refine pm_iadd hC dX10_spread_53 ?_
    refine pm_mmax hC 4011 4012 1018 4013 ⟨by decide, by decide⟩ ⟨by omega, by omega⟩ (by decide) wL_X10_69 wS_mmax wI_math wC_mmax (Nat.le_of_ble_eq_true rfl) dX10_spread_54 (fun y161 b162 => ?_)
    have he163 : pm_mx 1 ((y150 + a2) + y159) = y161 := pm_mx_of b162
    replace b162 : 1 ≤ y161 ∧ y161 ≤ 171 ∧ 1 ≤ y161 ∧ ((y150 + a2) + y159) ≤ y161 := ⟨by omega, by omega, b162.1, b162.2.1⟩
    replace hT := hT.trans (pf_let_eq he163)
    refine pm_putf hC 73 fl_X10_27 rfl rfl rfl (by decide) rfl trivial dX10_spread_57 ?_
    refine pm_aload_n hC 0 (by decide) dX10_spread_60 rfl ?_
    refine pm_lconst (x := 0) hC dX10_spread_61 rfl ?_
    refine pm_putf hC 73 fl_X10_41 rfl rfl rfl (by decide) rfl trivial dX10_spread_62 ?_
    refine pm_aload_n hC 0 (by decide) dX10_spread_65 rfl ?_
    refine pm_lconst (x := 0) hC dX10_spread_66 rfl ?_
    refine pm_putf hC 73 fl_X10_44 rfl rfl rfl (by decide) rfl trivial dX10_spread_67 ?_
    refine pm_aload_n hC 0 (by decide) dX10_spread_70 rfl ?_
    refine pm_lconst (x := 0) hC dX10_spread_71 rfl ?_
    refine pm_putf hC 73 fl_X10_47 rfl rfl rfl (by decide) rfl trivial dX10_spread_72 ?_
    refine pm_iconst (v := 0) hC dX10_spread_75 ?_
    refine pm_istore_n (lv' := [(3, (0, 0)), (0, (3, 73)), (1, (0, a1)), (2, (0, a2))]) hC dX10_spread_76 (by decide) rfl ?_
    have hV166 := (((((hV0.put 73 5 (x := y147) (lo := 1) (hi := 171) rfl ⟨by omega, by omega⟩).put 73 6 (x := y161) (lo := 1) (hi := 171) rfl ⟨by omega, by omega⟩).put 73 10 (x := 0) (lo := (-9223372036854775808)) (hi := 9223372036854775807) rfl ⟨by decide, by decide⟩).put 73 11 (x := 0) (lo := (-9223372036854775808)) (hi := 9223372036854775807) rfl ⟨by decide, by decide⟩).put 73 12 (x := 0) (lo := (-9223372036854775808)) (hi := 9223372036854775807) rfl ⟨by decide, by decide⟩)
    have hF167 := ((((((pm_ff.rf (cs := [74, 75]) (fs := [(73, 5), (73, 6), (73, 10), (73, 11), (73, 12)]) (V := V0)).upf 73 5 y147 rfl).upf 73 6 y161 rfl).upf 73 10 0 rfl).upf 73 11 0 rfl).upf 73 12 0 rfl)
    obtain ⟨V164, hv165⟩ : ∃ V, V = (pm_up (pm_up (pm_up (pm_up (pm_up V0 73 5 y147) 73 6 y161) 73 10 0) 73 11 0) 73 12 0) := ⟨_, rfl⟩
    rw [← hv165] at hV166 hF167
    rw [← hv165]
    replace hT := hT.trans (pf_let_eq hv165.symm)
    have e168 : V164 73 0 = 51 := by rw [hv165]; exact e1
    have e169 : V164 51 4 = y136 := by rw [hv165]; exact e137
    have e170 : V164 51 5 = y139 := by rw [hv165]; exact e140
    have e171 : V164 73 3 = y142 := by rw [hv165]; exact e143
    have e172 : V164 51 6 = y150 := by rw [hv165]; exact e151
    have e173 : V164 51 7 = y153 := by rw [hv165]; exact e154
    have e174 : V164 73 4 = y156 := by rw [hv165]; exact e157
    have e175 : V164 73 5 = y147 := by rw [hv165]; rfl
    have e176 : V164 73 6 = y161 := by rw [hv165]; rfl
    have e177 : V164 73 10 = 0 := by rw [hv165]; rfl
    have e178 : V164 73 11 = 0 := by rw [hv165]; rfl
    have e179 : V164 73 12 = 0 := by rw [hv165]; rfl
    obtain ⟨B194, hB195, hT⟩ := pf_loop hT
    have L197 : ∀ (N199 : Nat) (x180 : Int) (V182 : pm_M), (0 ≤ x180 ∧ x180 ≤ 9) → pm_ok 0 90 V182 → pm_ff [74, 75] [(73, 5), (73, 6), (73, 10), (73, 11), (73, 12)] V0 V182 → V182 73 0 = 51 → V182 51 4 = y136 → V182 51 5 = y139 → V182 73 3 = y142 → V182 51 6 = y150 → V182 51 7 = y153 → V182 73 4 = y156 → V182 73 5 = y147 → V182 73 6 = y161 → F_X10_spread a1 a2 V0 = pf_val ((0 : Int), V0) B194 (x180, V182) → (Int.toNat (9 - x180)) = N199 → pm_J X 77 [(0, (3, 73)), (1, (0, a1)), (2, (0, a2)), (3, (0, x180))] [] 118 V182 := by
      intro N199
      induction N199 using Nat.strongRecOn with
      | _ N199 ih200 =>
      intro x180 V182 b181 hV183 hF184 e185 e186 e187 e188 e189 e190 e191 e192 e193 hT hm198
      have hb196 := congrFun hB195 (x180, V182)
      refine pm_iload_n hC 3 dX10_spread_77 rfl ?_
      refine pm_aload_n hC 0 (by decide) dX10_spread_78 rfl ?_
      refine pm_getf (v := 51) hC 73 fl_X10_59 rfl rfl (by decide) rfl e185 dX10_spread_79 ?_
      obtain ⟨y201, e202⟩ : ∃ y, V182 51 0 = y := ⟨_, rfl⟩
      have b203 := hV183.get 51 0 (lo := 0) (hi := 9) (by decide) (by decide) rfl
      rw [e202] at b203
      replace hb196 := hb196.trans (pf_let_eq e202)
      refine pm_getf (v := y201) hC 51 fl_X10_79 rfl rfl (by decide) rfl e202 dX10_spread_82 ?_
      refine pm_icmp_ge (tgt := 238) hC ⟨by omega, by omega⟩ ⟨by omega, by omega⟩ dX10_spread_85 (by decide) (fun c204 => ?_) (fun c204 => ?_)
      · skip
        replace hb196 := hb196.trans (if_pos c204)
        have hT := hT.trans (pf_val_inr hb196)
        exact pm_vret hC hR ⟨rfl, hV183, hF184, hT⟩ dX10_spread_238
      · skip
        replace hb196 := hb196.trans (if_neg (Int.not_le.mpr c204))
        refine pm_aload_n hC 0 (by decide) dX10_spread_88 rfl ?_
        refine pm_getf (v := 51) hC 73 fl_X10_59 rfl rfl (by decide) rfl e185 dX10_spread_89 ?_
        have e205 : V182 51 1 = 52 := hV183.one 51 1 (by decide) (by decide) rfl
        refine pm_getf (v := 52) hC 51 fl_X10_82 rfl rfl (by decide) rfl e205 dX10_spread_92 ?_
        refine pm_iload_n hC 3 dX10_spread_95 rfl ?_
        obtain ⟨y206, e207⟩ : ∃ y, V182 52 (x180 : Int).toNat = y := ⟨_, rfl⟩
        replace hb196 := hb196.trans (pf_let_eq e207)
        have b208 := hV183.get 52 (x180 : Int).toNat (lo := 0) (hi := 99) (by decide) (show _ < 9 by omega) rfl
        rw [e207] at b208
        refine pm_iaload (len := 9) (v := y206) hC 52 rfl rfl (by decide) ⟨by omega, by omega⟩ (by decide) e207 dX10_spread_96 ?_
        refine pm_aload_n hC 0 (by decide) dX10_spread_97 rfl ?_
        refine pm_getf (v := 51) hC 73 fl_X10_59 rfl rfl (by decide) rfl e185 dX10_spread_98 ?_
        refine pm_getf (v := 52) hC 51 fl_X10_82 rfl rfl (by decide) rfl e205 dX10_spread_101 ?_
        refine pm_aload_n hC 0 (by decide) dX10_spread_104 rfl ?_
        obtain ⟨y209, e210⟩ : ∃ y, V182 73 2 = y := ⟨_, rfl⟩
        have b211 := hV183.get 73 2 (lo := 0) (hi := 8) (by decide) (by decide) rfl
        rw [e210] at b211
        replace hb196 := hb196.trans (pf_let_eq e210)
        refine pm_getf (v := y209) hC 73 fl_X10_15 rfl rfl (by decide) rfl e210 dX10_spread_105 ?_
        obtain ⟨y212, e213⟩ : ∃ y, V182 52 (y209 : Int).toNat = y := ⟨_, rfl⟩
        replace hb196 := hb196.trans (pf_let_eq e213)
        have b214 := hV183.get 52 (y209 : Int).toNat (lo := 0) (hi := 99) (by decide) (show _ < 9 by omega) rfl
        rw [e213] at b214
        refine pm_iaload (len := 9) (v := y212) hC 52 rfl rfl (by decide) ⟨by omega, by omega⟩ (by decide) e213 dX10_spread_108 ?_
        refine pm_isub hC dX10_spread_109 ?_
        refine pm_mabsT hC 4014 4015 1018 4016 ⟨by omega, by omega⟩ (by decide) wL_X10_86 wS_mabs wI_math wC_mabs (Nat.le_of_ble_eq_true rfl) dX10_spread_110 (fun y215 he217 b216 => ?_)
        have b216 := And.intro b216.1.1 (And.intro b216.1.2 b216.2)
        replace hb196 := hb196.trans (pf_let_eq he217)
        refine pm_istore (lv' := [(4, (0, y215)), (0, (3, 73)), (1, (0, a1)), (2, (0, a2)), (3, (0, x180))]) hC dX10_spread_113 (by decide) rfl ?_
        refine pm_aload_n hC 1 (by decide) dX10_spread_115 rfl ?_
        refine pm_getf (v := 51) hC 73 fl_X10_59 rfl rfl (by decide) rfl e185 dX10_spread_116 ?_
        have e218 : V182 51 3 = 54 := hV183.one 51 3 (by decide) (by decide) rfl
        refine pm_getf (v := 54) hC 51 fl_X10_90 rfl rfl (by decide) rfl e218 dX10_spread_119 ?_
        refine pm_iload_n hC 4 dX10_spread_122 rfl ?_
        obtain ⟨y219, e220⟩ : ∃ y, V182 54 (x180 : Int).toNat = y := ⟨_, rfl⟩
        replace hb196 := hb196.trans (pf_let_eq e220)
        have b221 := hV183.get 54 (x180 : Int).toNat (lo := 0) (hi := 9) (by decide) (show _ < 9 by omega) rfl
        rw [e220] at b221
        refine pm_iaload (len := 9) (v := y219) hC 54 rfl rfl (by decide) ⟨by omega, by omega⟩ (by decide) e220 dX10_spread_123 ?_
        refine pm_iconst (v := 0) hC dX10_spread_124 ?_
        refine pm_aload_n hC 1 (by decide) dX10_spread_125 rfl ?_
        refine pm_getf (v := y147) hC 73 fl_X10_24 rfl rfl (by decide) rfl e192 dX10_spread_126 ?_
        refine pm_aload_n hC 1 (by decide) dX10_spread_129 rfl ?_
        refine pm_iload_n hC 4 dX10_spread_130 rfl ?_
        refine pm_aload_n hC 1 (by decide) dX10_spread_131 rfl ?_
        refine pm_getf (v := 51) hC 73 fl_X10_59 rfl rfl (by decide) rfl e185 dX10_spread_132 ?_
        refine pm_getf (v := 52) hC 51 fl_X10_82 rfl rfl (by decide) rfl e205 dX10_spread_135 ?_
        refine pm_aload_n hC 1 (by decide) dX10_spread_138 rfl ?_
        obtain ⟨y222, e223⟩ : ∃ y, V182 73 1 = y := ⟨_, rfl⟩
        have b224 := hV183.get 73 1 (lo := 0) (hi := 8) (by decide) (by decide) rfl
        rw [e223] at b224
        replace hb196 := hb196.trans (pf_let_eq e223)
        refine pm_getf (v := y222) hC 73 fl_X10_9 rfl rfl (by decide) rfl e223 dX10_spread_139 ?_
        obtain ⟨y225, e226⟩ : ∃ y, V182 52 (y222 : Int).toNat = y := ⟨_, rfl⟩
        replace hb196 := hb196.trans (pf_let_eq e226)
        have b227 := hV183.get 52 (y222 : Int).toNat (lo := 0) (hi := 99) (by decide) (show _ < 9 by omega) rfl
        rw [e226] at b227
        refine pm_iaload (len := 9) (v := y225) hC 52 rfl rfl (by decide) ⟨by omega, by omega⟩ (by decide) e226 dX10_spread_142 ?_
        refine pm_aload_n hC 1 (by decide) dX10_spread_143 rfl ?_
        refine pm_getf (v := 51) hC 73 fl_X10_59 rfl rfl (by decide) rfl e185 dX10_spread_144 ?_
        have e228 : V182 51 2 = 53 := hV183.one 51 2 (by decide) (by decide) rfl
        refine pm_getf (v := 53) hC 51 fl_X10_93 rfl rfl (by decide) rfl e228 dX10_spread_147 ?_
        refine pm_aload_n hC 1 (by decide) dX10_spread_150 rfl ?_
        refine pm_getf (v := y222) hC 73 fl_X10_9 rfl rfl (by decide) rfl e223 dX10_spread_151 ?_
        obtain ⟨y229, e230⟩ : ∃ y, V182 53 (y222 : Int).toNat = y := ⟨_, rfl⟩
        replace hb196 := hb196.trans (pf_let_eq e230)
        have b231 := hV183.get 53 (y222 : Int).toNat (lo := 0) (hi := 99) (by decide) (show _ < 9 by omega) rfl
        rw [e230] at b231
        refine pm_iaload (len := 9) (v := y229) hC 53 rfl rfl (by decide) ⟨by omega, by omega⟩ (by decide) e230 dX10_spread_154 ?_
        refine pm_callV (ci := 10) (as := [(0, x180), (0, y225), (0, y229)]) (st := [(0, y147), (0, 0), (0, y219)]) hC 73 (fD_X10_farFrom_73 x180 y225 y229 ⟨by omega, by omega⟩ ⟨by omega, by omega⟩ ⟨by omega, by omega⟩) lm_X10_96 li_X10_farFrom (by decide) (by decide) rfl rfl rfl (by decide) rfl rfl (Nat.le_of_ble_eq_true rfl) ⟨Nat.le_refl _, Or.inl rfl⟩ dX10_spread_155 ⟨rfl, hV183⟩ (fun r232 V233 hp234 => ?_)
        obtain ⟨y235, rfl, b236, rfl, hE237⟩ := hp234
        replace hb196 := hb196.trans (pf_call_eq hE237)
        change pm_J X 158 [(4, (0, y215)), (0, (3, 73)), (1, (0, a1)), (2, (0, a2)), (3, (0, x180))] [(0, y235), (0, y147), (0, 0), (0, y219)] 118 V182
        refine pm_isub hC dX10_spread_158 ?_
        refine pm_mmax hC 4011 4012 1018 4013 ⟨by decide, by decide⟩ ⟨by omega, by omega⟩ (by decide) wL_X10_69 wS_mmax wI_math wC_mmax (Nat.le_of_ble_eq_true rfl) dX10_spread_159 (fun y238 b239 => ?_)
        have he240 : pm_mx 0 (y147 - y235) = y238 := pm_mx_of b239
        replace b239 : 0 ≤ y238 ∧ y238 ≤ 171 ∧ 0 ≤ y238 ∧ (y147 - y235) ≤ y238 := ⟨by omega, by omega, b239.1, b239.2.1⟩
        replace hb196 := hb196.trans (pf_let_eq he240)
        refine pm_imul hC dX10_spread_162 ?_
        have b242 : 0 ≤ (y219 * y238) ∧ (y219 * y238) ≤ 1539 := pm_mulb (by omega) (by omega) (show y219 ≤ 9 by omega) (show y238 ≤ 171 by omega) (by decide)
        obtain ⟨y241, hey241⟩ : ∃ z, (y219 * y238) = z := ⟨_, rfl⟩
        rw [hey241] at b242 ⊢
        replace hb196 := hb196.trans (pf_let_eq hey241)
        refine pm_i2l hC ⟨by omega, by omega⟩ dX10_spread_163 ?_
        refine pm_lstore (lv' := [(5, (1, y241)), (4, (0, y215)), (0, (3, 73)), (1, (0, a1)), (2, (0, a2)), (3, (0, x180))]) hC dX10_spread_164 (by decide) rfl ?_
        refine pm_iconst (v := 0) hC dX10_spread_166 ?_
        refine pm_aload_n hC 2 (by decide) dX10_spread_167 rfl ?_
        refine pm_getf (v := y161) hC 73 fl_X10_27 rfl rfl (by decide) rfl e193 dX10_spread_168 ?_
        refine pm_iload hC 1 dX10_spread_171 rfl ?_
        refine pm_isub hC dX10_spread_173 ?_
        refine pm_mmax hC 4011 4012 1018 4013 ⟨by decide, by decide⟩ ⟨by omega, by omega⟩ (by decide) wL_X10_69 wS_mmax wI_math wC_mmax (Nat.le_of_ble_eq_true rfl) dX10_spread_174 (fun y243 b244 => ?_)
        have he245 : pm_mx 0 (y161 - y215) = y243 := pm_mx_of b244
        replace b244 : 0 ≤ y243 ∧ y243 ≤ 171 ∧ 0 ≤ y243 ∧ (y161 - y215) ≤ y243 := ⟨by omega, by omega, b244.1, b244.2.1⟩
        replace hb196 := hb196.trans (pf_let_eq he245)
        refine pm_i2l hC ⟨by omega, by omega⟩ dX10_spread_177 ?_
        refine pm_lstore (lv' := [(7, (1, y243)), (5, (1, y241)), (4, (0, y215)), (0, (3, 73)), (1, (0, a1)), (2, (0, a2)), (3, (0, x180))]) hC dX10_spread_178 (by decide) rfl ?_
        refine pm_aload_n hC 3 (by decide) dX10_spread_180 rfl ?_
        have e246 : V182 73 8 = 74 := hV183.one 73 8 (by decide) (by decide) rfl
        refine pm_getf (v := 74) hC 73 fl_X10_34 rfl rfl (by decide) rfl e246 dX10_spread_181 ?_
        refine pm_iload_n hC 6 dX10_spread_184 rfl ?_
        refine pm_lload hC 1 dX10_spread_185 rfl ?_
        refine pm_lastore (len := 9) hC 74 rfl rfl (by decide) ⟨by omega, by omega⟩ (by decide) dX10_spread_187 ?_
        refine pm_aload_n hC 3 (by decide) dX10_spread_188 rfl ?_
        have e247 : V182 73 9 = 75 := hV183.one 73 9 (by decide) (by decide) rfl
        refine pm_getf (v := 75) hC 73 fl_X10_38 rfl rfl (by decide) rfl e247 dX10_spread_189 ?_
        refine pm_iload_n hC 6 dX10_spread_192 rfl ?_
        refine pm_lload hC 0 dX10_spread_193 rfl ?_
        refine pm_lastore (len := 9) hC 75 rfl rfl (by decide) ⟨by omega, by omega⟩ (by decide) dX10_spread_195 ?_
        refine pm_aload_n hC 3 (by decide) dX10_spread_196 rfl ?_
        refine pm_dup hC rfl dX10_spread_197 ?_
        obtain ⟨y248, e249⟩ : ∃ y, V182 73 10 = y := ⟨_, rfl⟩
        have b250 := hV183.get 73 10 (lo := (-9223372036854775808)) (hi := 9223372036854775807) (by decide) (by decide) rfl
        rw [e249] at b250
        replace hb196 := hb196.trans (pf_let_eq e249)
        refine pm_getf (v := y248) hC 73 fl_X10_41 rfl rfl (by decide) rfl e249 dX10_spread_198 ?_
        refine pm_lload hC 1 dX10_spread_201 rfl ?_
        refine pm_ladd hC dX10_spread_203 ?_
        refine pm_wrL hC (fun y251 hw253 b252 => ?_)
        replace hb196 := hb196.trans (pf_let_eq hw253)
        have b252 := And.intro b252.1 b252.2
        refine pm_putf hC 73 fl_X10_41 rfl rfl rfl (by decide) rfl trivial dX10_spread_204 ?_
        refine pm_aload_n hC 3 (by decide) dX10_spread_207 rfl ?_
        refine pm_dup hC rfl dX10_spread_208 ?_
        obtain ⟨y254, e255⟩ : ∃ y, V182 73 11 = y := ⟨_, rfl⟩
        have b256 := hV183.get 73 11 (lo := (-9223372036854775808)) (hi := 9223372036854775807) (by decide) (by decide) rfl
        rw [e255] at b256
        replace hb196 := hb196.trans (pf_let_eq e255)
        refine pm_getf (v := y254) hC 73 fl_X10_44 rfl rfl (by decide) rfl e255 dX10_spread_209 ?_
        refine pm_lload hC 0 dX10_spread_212 rfl ?_
        refine pm_ladd hC dX10_spread_214 ?_
        refine pm_wrL hC (fun y257 hw259 b258 => ?_)
        replace hb196 := hb196.trans (pf_let_eq hw259)
        have b258 := And.intro b258.1 b258.2
        refine pm_putf hC 73 fl_X10_44 rfl rfl rfl (by decide) rfl trivial dX10_spread_215 ?_
        refine pm_aload_n hC 3 (by decide) dX10_spread_218 rfl ?_
        refine pm_dup hC rfl dX10_spread_219 ?_
        obtain ⟨y260, e261⟩ : ∃ y, V182 73 12 = y := ⟨_, rfl⟩
        have b262 := hV183.get 73 12 (lo := (-9223372036854775808)) (hi := 9223372036854775807) (by decide) (by decide) rfl
        rw [e261] at b262
        replace hb196 := hb196.trans (pf_let_eq e261)
        refine pm_getf (v := y260) hC 73 fl_X10_47 rfl rfl (by decide) rfl e261 dX10_spread_220 ?_
        refine pm_lload hC 1 dX10_spread_223 rfl ?_
        refine pm_lload hC 0 dX10_spread_225 rfl ?_
        refine pm_lmul hC dX10_spread_227 ?_
        have b264 : 0 ≤ (y241 * y243) ∧ (y241 * y243) ≤ 263169 := pm_mulb (by omega) (by omega) (show y241 ≤ 1539 by omega) (show y243 ≤ 171 by omega) (by decide)
        obtain ⟨y263, hey263⟩ : ∃ z, (y241 * y243) = z := ⟨_, rfl⟩
        rw [hey263] at b264 ⊢
        replace hb196 := hb196.trans (pf_let_eq hey263)
        refine pm_ladd hC dX10_spread_228 ?_
        refine pm_wrL hC (fun y265 hw267 b266 => ?_)
        replace hb196 := hb196.trans (pf_let_eq hw267)
        have b266 := And.intro b266.1 b266.2
        refine pm_putf hC 73 fl_X10_47 rfl rfl rfl (by decide) rfl trivial dX10_spread_229 ?_
        obtain ⟨x268, ei269⟩ : ∃ y : Int, x180 + 1 = y := ⟨_, rfl⟩
        replace hb196 := hb196.trans (pf_let_eq ei269)
        refine pm_iinc (y := x268) (lv' := [(3, (0, x268)), (7, (1, y243)), (5, (1, y241)), (4, (0, y215)), (0, (3, 73)), (1, (0, a1)), (2, (0, a2))]) hC 6 dX10_spread_232 (by decide) rfl ei269 rfl ?_
        refine pm_goto (tgt := 77) hC dX10_spread_235 (by decide) ?_
        refine pm_lvsub [4, 5, 6, 0] (lv' := [(0, (3, 73)), (1, (0, a1)), (2, (0, a2)), (3, (0, x268))]) rfl ?_
        exact ih200 _ (by omega) x268 (pm_up (pm_up (pm_up (pm_up (pm_up V182 74 (x180 : Int).toNat y241) 75 (x180 : Int).toNat y243) 73 10 y251) 73 11 y257) 73 12 y265) ⟨by omega, by omega⟩ (((((hV183.put 74 (x180 : Int).toNat (x := y241) (lo := (-9223372036854775808)) (hi := 9223372036854775807) rfl ⟨by omega, by omega⟩).put 75 (x180 : Int).toNat (x := y243) (lo := (-9223372036854775808)) (hi := 9223372036854775807) rfl ⟨by omega, by omega⟩).put 73 10 (x := y251) (lo := (-9223372036854775808)) (hi := 9223372036854775807) rfl ⟨by omega, by omega⟩).put 73 11 (x := y257) (lo := (-9223372036854775808)) (hi := 9223372036854775807) rfl ⟨by omega, by omega⟩).put 73 12 (x := y265) (lo := (-9223372036854775808)) (hi := 9223372036854775807) rfl ⟨by omega, by omega⟩) (((((hF184.upa 74 (x180 : Int).toNat y241 rfl).upa 75 (x180 : Int).toNat y243 rfl).upf 73 10 y251 rfl).upf 73 11 y257 rfl).upf 73 12 y265 rfl) e185 e186 e187 e188 e189 e190 e191 e192 e193 (hT.trans (pf_val_inl hb196)) rfl
    refine pm_lvsub [1, 2, 3, 0] (lv' := [(0, (3, 73)), (1, (0, a1)), (2, (0, a2)), (3, (0, 0))]) rfl ?_
    exact L197 _ 0 V164 ⟨by decide, by decide⟩ hV166 hF167 e168 e169 e170 e171 e172 e173 e174 e175 e176 hT rfl
set_option maxHeartbeats 4000000 in
set_option maxRecDepth 100000 in
theorem fD_X10_place_73_51 (a1 a2 : Int) (h0 : 0 ≤ a1 ∧ a1 ≤ 99) (h1 : 0 ≤ a2 ∧ a2 ≤ 99) (h2 : a1 % 10 ≤ 8 ∧ a1 / 10 ≤ 8) : pm_K 1 yX10_place cX10_place 4 none (fun av V => av = [(3, 73), (3, 51), (0, a1), (0, a2)] ∧ pm_ok 0 90 V) (fun _ V r V' => r = none ∧ pm_ok 0 90 V' ∧ pm_ff [] [(73, 0), (73, 1), (73, 2), (73, 3), (73, 4)] V V' ∧ F_X10_place 51 a1 a2 V = (0, V')) := by
  refine pm_MT.of (by decide) ⟨Nat.le_refl _, by decide⟩ (fun av V h => by rw [h.1]; exact (by decide : pm_words [(3, 0), (3, 0), (0, 0), (0, 0)] ≤ 4)) ?_
  rintro X av V0 hC - hR ⟨rfl, hV0⟩
  change pm_J X 0 [(0, (3, 73)), (1, (3, 51)), (2, (0, a1)), (3, (0, a2))] [] 118 V0
  have hT := F_X10_place_eq 51 a1 a2 V0
  refine pm_aload_n hC 0 (by decide) dX10_place_0 rfl ?_
  refine pm_aload_n hC 1 (by decide) dX10_place_1 rfl ?_
  refine pm_putf hC 73 fl_X10_59 rfl rfl rfl (by decide) rfl trivial dX10_place_2 ?_
  refine pm_aload_n hC 0 (by decide) dX10_place_5 rfl ?_
  refine pm_iload_n hC 2 dX10_place_6 rfl ?_
  refine pm_bipush (v := 10) hC dX10_place_7 (by decide) ?_
  refine pm_idiv hC ⟨by omega, by omega, by omega⟩ ⟨by decide, by decide, by decide⟩ dX10_place_9 ?_
  refine pm_putf hC 73 fl_X10_9 rfl rfl rfl (by decide) rfl trivial dX10_place_10 ?_
  refine pm_aload_n hC 0 (by decide) dX10_place_13 rfl ?_
  refine pm_iload_n hC 2 dX10_place_14 rfl ?_
  refine pm_bipush (v := 10) hC dX10_place_15 (by decide) ?_
  refine pm_irem hC ⟨by omega, by omega, by omega⟩ ⟨by decide, by decide, by decide⟩ dX10_place_17 ?_
  refine pm_putf hC 73 fl_X10_15 rfl rfl rfl (by decide) rfl trivial dX10_place_18 ?_
  refine pm_aload_n hC 0 (by decide) dX10_place_21 rfl ?_
  refine pm_iload_n hC 3 dX10_place_22 rfl ?_
  refine pm_bipush (v := 10) hC dX10_place_23 (by decide) ?_
  refine pm_idiv hC ⟨by omega, by omega, by omega⟩ ⟨by decide, by decide, by decide⟩ dX10_place_25 ?_
  refine pm_putf hC 73 fl_X10_18 rfl rfl rfl (by decide) rfl trivial dX10_place_26 ?_
  refine pm_aload_n hC 0 (by decide) dX10_place_29 rfl ?_
  refine pm_iload_n hC 3 dX10_place_30 rfl ?_
  refine pm_bipush (v := 10) hC dX10_place_31 (by decide) ?_
  refine pm_irem hC ⟨by omega, by omega, by omega⟩ ⟨by decide, by decide, by decide⟩ dX10_place_33 ?_
  refine pm_putf hC 73 fl_X10_21 rfl rfl rfl (by decide) rfl trivial dX10_place_34 ?_
  exact pm_vret hC hR ⟨rfl, (((((hV0.put2 73 0 (x := 51) (lo := 45) (hi := 51) rfl ⟨by omega, by decide⟩).put 73 1 (x := (a1 / 10)) (lo := 0) (hi := 8) rfl ⟨by omega, by omega⟩).put 73 2 (x := (a1 % 10)) (lo := 0) (hi := 8) rfl ⟨by omega, by omega⟩).put 73 3 (x := (a2 / 10)) (lo := 0) (hi := 9) rfl ⟨by omega, by omega⟩).put 73 4 (x := (a2 % 10)) (lo := 0) (hi := 9) rfl ⟨by omega, by omega⟩), ((((((pm_ff.rf (cs := []) (fs := [(73, 0), (73, 1), (73, 2), (73, 3), (73, 4)]) (V := V0)).upf 73 0 51 rfl).upf 73 1 (a1 / 10) rfl).upf 73 2 (a1 % 10) rfl).upf 73 3 (a2 / 10) rfl).upf 73 4 (a2 % 10) rfl), hT⟩ dX10_place_37
set_option maxHeartbeats 4000000 in
set_option maxRecDepth 100000 in
theorem fD_X11_poseAs_0 (a1 a2 a3 a4 : Int) (h0 : 0 ≤ a1 ∧ a1 ≤ 999) (h1 : 0 ≤ a2 ∧ a2 ≤ 99) (h2 : (-30) ≤ a3 ∧ a3 ≤ 30) (h3 : (-30) ≤ a4 ∧ a4 ≤ 30) (h4 : a1 % 10 ≤ 8 ∧ a1 / 10 % 10 ≤ 8) : pm_K 3 yX11_poseAs cX11_poseAs 5 none (fun av V => av = [(3, 0), (0, a1), (0, a2), (0, a3), (0, a4)] ∧ pm_ok 0 90 V) (fun _ V r V' => r = none ∧ pm_ok 0 90 V' ∧ pm_ff [74, 75] [(73, 0), (73, 1), (73, 2), (73, 3), (73, 4), (73, 5), (73, 6), (73, 10), (73, 11), (73, 12)] V V' ∧ F_X11_poseAs a1 a2 a3 a4 V = (0, V')) := by
  refine pm_MT.of (by decide) ⟨Nat.le_refl _, by decide⟩ (fun av V h => by rw [h.1]; exact (by decide : pm_words [(3, 0), (0, 0), (0, 0), (0, 0), (0, 0)] ≤ 5)) ?_
  rintro X av V0 hC - hR ⟨rfl, hV0⟩
  change pm_J X 0 [(0, (3, 0)), (1, (0, a1)), (2, (0, a2)), (3, (0, a3)), (4, (0, a4))] [] 118 V0
  have hT := F_X11_poseAs_eq a1 a2 a3 a4 V0
  refine pm_aload_n hC 0 (by decide) dX11_poseAs_0 rfl ?_
  have e1 : V0 0 5 = 73 := hV0.one 0 5 (by decide) (by decide) rfl
  refine pm_getf (v := 73) hC 0 fl_X11_75 rfl rfl (by decide) rfl e1 dX11_poseAs_1 ?_
  refine pm_aload_n hC 0 (by decide) dX11_poseAs_4 rfl ?_
  rcases hV0.get2 0 8 (lo := 45) (hi := 51) (by decide) (by decide) rfl with e2 | e2
  · skip
    replace hT := hT.trans (if_pos e2)
    refine pm_getf (v := 45) hC 0 fl_X11_35 rfl rfl (by decide) rfl e2 dX11_poseAs_5 ?_
    refine pm_iload_n hC 1 dX11_poseAs_8 rfl ?_
    refine pm_bipush (v := 100) hC dX11_poseAs_9 (by decide) ?_
    refine pm_irem hC ⟨by omega, by omega, by omega⟩ ⟨by decide, by decide, by decide⟩ dX11_poseAs_11 ?_
    refine pm_iload_n hC 2 dX11_poseAs_12 rfl ?_
    refine pm_callV (ci := 10) (as := [(3, 45), (0, (a1 % 100)), (0, a2)]) (st := []) hC 73 (fD_X10_place_73_45 (a1 % 100) a2 ⟨by omega, by omega⟩ ⟨by omega, by omega⟩ (by omega)) lm_X11_344 li_X10_place (by decide) (by decide) rfl rfl rfl (by decide) rfl rfl (Nat.le_of_ble_eq_true rfl) ⟨Nat.le_refl _, Or.inl rfl⟩ dX11_poseAs_13 ⟨rfl, hV0⟩ (fun r3 V4 hp5 => ?_)
    obtain ⟨rfl, hV6, hF7, hE8⟩ := hp5
    replace hT := hT.trans (pf_call_eq hE8)
    change pm_J X 16 [(0, (3, 0)), (1, (0, a1)), (2, (0, a2)), (3, (0, a3)), (4, (0, a4))] [] 118 V4
    have hF9 := pm_ff.tr (pm_ff.rf (cs := [74, 75]) (fs := [(73, 0), (73, 1), (73, 2), (73, 3), (73, 4), (73, 5), (73, 6), (73, 10), (73, 11), (73, 12)]) (V := V0)) hF7 (by decide) (by decide)
    have e10 : V4 0 5 = 73 := by rw [hF7 0 5 (by decide) (by decide)]; exact e1
    have e11 : V4 0 8 = 45 := by rw [hF7 0 8 (by decide) (by decide)]; exact e2
    refine pm_aload_n hC 0 (by decide) dX11_poseAs_16 rfl ?_
    refine pm_getf (v := 73) hC 0 fl_X11_75 rfl rfl (by decide) rfl e10 dX11_poseAs_17 ?_
    refine pm_iload_n hC 3 dX11_poseAs_20 rfl ?_
    refine pm_iload hC 4 dX11_poseAs_21 rfl ?_
    refine pm_callV (ci := 10) (as := [(0, a3), (0, a4)]) (st := []) hC 73 (fD_X10_spread_73 a3 a4 ⟨by omega, by omega⟩ ⟨by omega, by omega⟩) lm_X11_348 li_X10_spread (by decide) (by decide) rfl rfl rfl (by decide) rfl rfl (Nat.le_of_ble_eq_true rfl) ⟨Nat.le_refl _, Or.inl rfl⟩ dX11_poseAs_23 ⟨rfl, hV6⟩ (fun r12 V13 hp14 => ?_)
    obtain ⟨rfl, hV15, hF16, hE17⟩ := hp14
    replace hT := hT.trans (pf_call_eq hE17)
    change pm_J X 26 [(0, (3, 0)), (1, (0, a1)), (2, (0, a2)), (3, (0, a3)), (4, (0, a4))] [] 118 V13
    have hF18 := pm_ff.tr hF9 hF16 (by decide) (by decide)
    have e19 : V13 0 5 = 73 := by rw [hF16 0 5 (by decide) (by decide)]; exact e10
    have e20 : V13 0 8 = 45 := by rw [hF16 0 8 (by decide) (by decide)]; exact e11
    exact pm_vret hC hR ⟨rfl, hV15, hF18, hT⟩ dX11_poseAs_26
  · skip
    replace hT := hT.trans (if_neg (by rw [e2]; decide))
    refine pm_getf (v := 51) hC 0 fl_X11_35 rfl rfl (by decide) rfl e2 dX11_poseAs_5 ?_
    refine pm_iload_n hC 1 dX11_poseAs_8 rfl ?_
    refine pm_bipush (v := 100) hC dX11_poseAs_9 (by decide) ?_
    refine pm_irem hC ⟨by omega, by omega, by omega⟩ ⟨by decide, by decide, by decide⟩ dX11_poseAs_11 ?_
    refine pm_iload_n hC 2 dX11_poseAs_12 rfl ?_
    refine pm_callV (ci := 10) (as := [(3, 51), (0, (a1 % 100)), (0, a2)]) (st := []) hC 73 (fD_X10_place_73_51 (a1 % 100) a2 ⟨by omega, by omega⟩ ⟨by omega, by omega⟩ (by omega)) lm_X11_344 li_X10_place (by decide) (by decide) rfl rfl rfl (by decide) rfl rfl (Nat.le_of_ble_eq_true rfl) ⟨Nat.le_refl _, Or.inl rfl⟩ dX11_poseAs_13 ⟨rfl, hV0⟩ (fun r21 V22 hp23 => ?_)
    obtain ⟨rfl, hV24, hF25, hE26⟩ := hp23
    replace hT := hT.trans (pf_call_eq hE26)
    change pm_J X 16 [(0, (3, 0)), (1, (0, a1)), (2, (0, a2)), (3, (0, a3)), (4, (0, a4))] [] 118 V22
    have hF27 := pm_ff.tr (pm_ff.rf (cs := [74, 75]) (fs := [(73, 0), (73, 1), (73, 2), (73, 3), (73, 4), (73, 5), (73, 6), (73, 10), (73, 11), (73, 12)]) (V := V0)) hF25 (by decide) (by decide)
    have e28 : V22 0 5 = 73 := by rw [hF25 0 5 (by decide) (by decide)]; exact e1
    have e29 : V22 0 8 = 51 := by rw [hF25 0 8 (by decide) (by decide)]; exact e2
    refine pm_aload_n hC 0 (by decide) dX11_poseAs_16 rfl ?_
    refine pm_getf (v := 73) hC 0 fl_X11_75 rfl rfl (by decide) rfl e28 dX11_poseAs_17 ?_
    refine pm_iload_n hC 3 dX11_poseAs_20 rfl ?_
    refine pm_iload hC 4 dX11_poseAs_21 rfl ?_
    refine pm_callV (ci := 10) (as := [(0, a3), (0, a4)]) (st := []) hC 73 (fD_X10_spread_73 a3 a4 ⟨by omega, by omega⟩ ⟨by omega, by omega⟩) lm_X11_348 li_X10_spread (by decide) (by decide) rfl rfl rfl (by decide) rfl rfl (Nat.le_of_ble_eq_true rfl) ⟨Nat.le_refl _, Or.inl rfl⟩ dX11_poseAs_23 ⟨rfl, hV24⟩ (fun r30 V31 hp32 => ?_)
    obtain ⟨rfl, hV33, hF34, hE35⟩ := hp32
    replace hT := hT.trans (pf_call_eq hE35)
    change pm_J X 26 [(0, (3, 0)), (1, (0, a1)), (2, (0, a2)), (3, (0, a3)), (4, (0, a4))] [] 118 V31
    have hF36 := pm_ff.tr hF27 hF34 (by decide) (by decide)
    have e37 : V31 0 5 = 73 := by rw [hF34 0 5 (by decide) (by decide)]; exact e28
    have e38 : V31 0 8 = 51 := by rw [hF34 0 8 (by decide) (by decide)]; exact e29
    exact pm_vret hC hR ⟨rfl, hV33, hF36, hT⟩ dX11_poseAs_26
set_option maxHeartbeats 4000000 in
set_option maxRecDepth 100000 in
theorem fD_X10_trustAt_73 (a1 a2 : Int) (h0 : (-2147483648) ≤ a1 ∧ a1 ≤ 2147483647) (h1 : (-99) ≤ a2 ∧ a2 ≤ 99) : pm_K 1 yX10_trustAt cX10_trustAt 4 none (fun av V => av = [(3, 73), (0, a1), (0, a2)] ∧ pm_ok 0 90 V) (fun _ V r V' => r = none ∧ pm_ok 0 90 V' ∧ pm_ff [] [(73, 7)] V V' ∧ F_X10_trustAt a1 a2 V = (0, V')) := by
  refine pm_MT.of (by decide) ⟨Nat.le_refl _, by decide⟩ (fun av V h => by rw [h.1]; exact (by decide : pm_words [(3, 0), (0, 0), (0, 0)] ≤ 4)) ?_
  rintro X av V0 hC - hR ⟨rfl, hV0⟩
  change pm_J X 0 [(0, (3, 73)), (1, (0, a1)), (2, (0, a2))] [] 118 V0
  have hT := F_X10_trustAt_eq a1 a2 V0
  refine pm_iload_n hC 2 dX10_trustAt_0 rfl ?_
  refine pm_if_lt (tgt := 20) hC ⟨by omega, by omega⟩ dX10_trustAt_1 (by decide) (fun c1 => ?_) (fun c1 => ?_)
  · skip
    replace hT := hT.trans (if_pos c1)
    refine pm_iload_n hC 2 dX10_trustAt_20 rfl ?_
    refine pm_ineg hC dX10_trustAt_21 ?_
    refine pm_iconst (v := 1) hC dX10_trustAt_22 ?_
    refine pm_aload_n hC 0 (by decide) dX10_trustAt_23 rfl ?_
    rcases hV0.get2 73 0 (lo := 45) (hi := 51) (by decide) (by decide) rfl with e2 | e2
    · skip
      replace hT := hT.trans (if_pos e2)
      refine pm_getf (v := 45) hC 73 fl_X10_59 rfl rfl (by decide) rfl e2 dX10_trustAt_24 ?_
      obtain ⟨y3, e4⟩ : ∃ y, V0 45 9 = y := ⟨_, rfl⟩
      have b5 := hV0.get 45 9 (lo := 0) (hi := 99) (by decide) (by decide) rfl
      rw [e4] at b5
      replace hT := hT.trans (pf_let_eq e4)
      refine pm_getf (v := y3) hC 45 fl_X10_100 rfl rfl (by decide) rfl e4 dX10_trustAt_27 ?_
      refine pm_iconst (v := 2) hC dX10_trustAt_30 ?_
      refine pm_idiv hC ⟨by omega, by omega, by omega⟩ ⟨by decide, by decide, by decide⟩ dX10_trustAt_31 ?_
      refine pm_mmax hC 4011 4012 1018 4013 ⟨by decide, by decide⟩ ⟨by omega, by omega⟩ (by decide) wL_X10_69 wS_mmax wI_math wC_mmax (Nat.le_of_ble_eq_true rfl) dX10_trustAt_32 (fun y6 b7 => ?_)
      have he8 : pm_mx 1 (y3 / 2) = y6 := pm_mx_of b7
      replace b7 : 1 ≤ y6 ∧ y6 ≤ 49 ∧ 1 ≤ y6 ∧ (y3 / 2) ≤ y6 := ⟨by omega, by omega, b7.1, b7.2.1⟩
      replace hT := hT.trans (pf_let_eq he8)
      refine pm_idiv hC ⟨by omega, by omega, by omega⟩ ⟨by omega, by omega, by omega⟩ dX10_trustAt_35 ?_
      have b10 := pm_divb (x := (-a2)) (y := y6) (by omega) (by omega)
      obtain ⟨y9, hey9⟩ : ∃ z, ((-a2) / y6) = z := ⟨_, rfl⟩
      rw [hey9] at b10 ⊢
      replace hT := hT.trans (pf_let_eq hey9)
      refine pm_istore_n (lv' := [(3, (0, y9)), (0, (3, 73)), (1, (0, a1)), (2, (0, a2))]) hC dX10_trustAt_36 (by decide) rfl ?_
      refine pm_aload_n hC 1 (by decide) dX10_trustAt_37 rfl ?_
      refine pm_iconst (v := 0) hC dX10_trustAt_38 ?_
      refine pm_iload_n hC 2 dX10_trustAt_39 rfl ?_
      refine pm_iload_n hC 0 dX10_trustAt_40 rfl ?_
      refine pm_isub hC dX10_trustAt_41 ?_
      refine pm_wr hC (fun y11 hw13 b12 => ?_)
      replace hT := hT.trans (pf_let_eq hw13)
      have b12 := And.intro b12.1 b12.2
      refine pm_mmax hC 4011 4012 1018 4013 ⟨by decide, by decide⟩ ⟨by omega, by omega⟩ (by decide) wL_X10_69 wS_mmax wI_math wC_mmax (Nat.le_of_ble_eq_true rfl) dX10_trustAt_42 (fun y14 b15 => ?_)
      have he16 : pm_mx 0 y11 = y14 := pm_mx_of b15
      replace b15 : 0 ≤ y14 ∧ y14 ≤ 2147483647 ∧ 0 ≤ y14 ∧ y11 ≤ y14 := ⟨by omega, by omega, b15.1, b15.2.1⟩
      replace hT := hT.trans (pf_let_eq he16)
      refine pm_i2l hC ⟨by omega, by omega⟩ dX10_trustAt_45 ?_
      refine pm_putf hC 73 fl_X10_30 rfl rfl rfl (by decide) rfl trivial dX10_trustAt_46 ?_
      exact pm_vret hC hR ⟨rfl, (hV0.put 73 7 (x := y14) (lo := (-9223372036854775808)) (hi := 9223372036854775807) rfl ⟨by omega, by omega⟩), ((pm_ff.rf (cs := []) (fs := [(73, 7)]) (V := V0)).upf 73 7 y14 rfl), hT⟩ dX10_trustAt_49
    · skip
      replace hT := hT.trans (if_neg (by rw [e2]; decide))
      refine pm_getf (v := 51) hC 73 fl_X10_59 rfl rfl (by decide) rfl e2 dX10_trustAt_24 ?_
      obtain ⟨y17, e18⟩ : ∃ y, V0 51 9 = y := ⟨_, rfl⟩
      have b19 := hV0.get 51 9 (lo := 0) (hi := 99) (by decide) (by decide) rfl
      rw [e18] at b19
      replace hT := hT.trans (pf_let_eq e18)
      refine pm_getf (v := y17) hC 51 fl_X10_100 rfl rfl (by decide) rfl e18 dX10_trustAt_27 ?_
      refine pm_iconst (v := 2) hC dX10_trustAt_30 ?_
      refine pm_idiv hC ⟨by omega, by omega, by omega⟩ ⟨by decide, by decide, by decide⟩ dX10_trustAt_31 ?_
      refine pm_mmax hC 4011 4012 1018 4013 ⟨by decide, by decide⟩ ⟨by omega, by omega⟩ (by decide) wL_X10_69 wS_mmax wI_math wC_mmax (Nat.le_of_ble_eq_true rfl) dX10_trustAt_32 (fun y20 b21 => ?_)
      have he22 : pm_mx 1 (y17 / 2) = y20 := pm_mx_of b21
      replace b21 : 1 ≤ y20 ∧ y20 ≤ 49 ∧ 1 ≤ y20 ∧ (y17 / 2) ≤ y20 := ⟨by omega, by omega, b21.1, b21.2.1⟩
      replace hT := hT.trans (pf_let_eq he22)
      refine pm_idiv hC ⟨by omega, by omega, by omega⟩ ⟨by omega, by omega, by omega⟩ dX10_trustAt_35 ?_
      have b24 := pm_divb (x := (-a2)) (y := y20) (by omega) (by omega)
      obtain ⟨y23, hey23⟩ : ∃ z, ((-a2) / y20) = z := ⟨_, rfl⟩
      rw [hey23] at b24 ⊢
      replace hT := hT.trans (pf_let_eq hey23)
      refine pm_istore_n (lv' := [(3, (0, y23)), (0, (3, 73)), (1, (0, a1)), (2, (0, a2))]) hC dX10_trustAt_36 (by decide) rfl ?_
      refine pm_aload_n hC 1 (by decide) dX10_trustAt_37 rfl ?_
      refine pm_iconst (v := 0) hC dX10_trustAt_38 ?_
      refine pm_iload_n hC 2 dX10_trustAt_39 rfl ?_
      refine pm_iload_n hC 0 dX10_trustAt_40 rfl ?_
      refine pm_isub hC dX10_trustAt_41 ?_
      refine pm_wr hC (fun y25 hw27 b26 => ?_)
      replace hT := hT.trans (pf_let_eq hw27)
      have b26 := And.intro b26.1 b26.2
      refine pm_mmax hC 4011 4012 1018 4013 ⟨by decide, by decide⟩ ⟨by omega, by omega⟩ (by decide) wL_X10_69 wS_mmax wI_math wC_mmax (Nat.le_of_ble_eq_true rfl) dX10_trustAt_42 (fun y28 b29 => ?_)
      have he30 : pm_mx 0 y25 = y28 := pm_mx_of b29
      replace b29 : 0 ≤ y28 ∧ y28 ≤ 2147483647 ∧ 0 ≤ y28 ∧ y25 ≤ y28 := ⟨by omega, by omega, b29.1, b29.2.1⟩
      replace hT := hT.trans (pf_let_eq he30)
      refine pm_i2l hC ⟨by omega, by omega⟩ dX10_trustAt_45 ?_
      refine pm_putf hC 73 fl_X10_30 rfl rfl rfl (by decide) rfl trivial dX10_trustAt_46 ?_
      exact pm_vret hC hR ⟨rfl, (hV0.put 73 7 (x := y28) (lo := (-9223372036854775808)) (hi := 9223372036854775807) rfl ⟨by omega, by omega⟩), ((pm_ff.rf (cs := []) (fs := [(73, 7)]) (V := V0)).upf 73 7 y28 rfl), hT⟩ dX10_trustAt_49
  · skip
    replace hT := hT.trans (if_neg (Int.not_lt.mpr c1))
    refine pm_iload_n hC 2 dX10_trustAt_4 rfl ?_
    refine pm_iconst (v := 1) hC dX10_trustAt_5 ?_
    refine pm_aload_n hC 0 (by decide) dX10_trustAt_6 rfl ?_
    rcases hV0.get2 73 0 (lo := 45) (hi := 51) (by decide) (by decide) rfl with e31 | e31
    · skip
      replace hT := hT.trans (if_pos e31)
      refine pm_getf (v := 45) hC 73 fl_X10_59 rfl rfl (by decide) rfl e31 dX10_trustAt_7 ?_
      obtain ⟨y32, e33⟩ : ∃ y, V0 45 9 = y := ⟨_, rfl⟩
      have b34 := hV0.get 45 9 (lo := 0) (hi := 99) (by decide) (by decide) rfl
      rw [e33] at b34
      replace hT := hT.trans (pf_let_eq e33)
      refine pm_getf (v := y32) hC 45 fl_X10_100 rfl rfl (by decide) rfl e33 dX10_trustAt_10 ?_
      refine pm_mmax hC 4011 4012 1018 4013 ⟨by decide, by decide⟩ ⟨by omega, by omega⟩ (by decide) wL_X10_69 wS_mmax wI_math wC_mmax (Nat.le_of_ble_eq_true rfl) dX10_trustAt_13 (fun y35 b36 => ?_)
      have he37 : pm_mx 1 y32 = y35 := pm_mx_of b36
      replace b36 : 1 ≤ y35 ∧ y35 ≤ 99 ∧ 1 ≤ y35 ∧ y32 ≤ y35 := ⟨by omega, by omega, b36.1, b36.2.1⟩
      replace hT := hT.trans (pf_let_eq he37)
      refine pm_idiv hC ⟨by omega, by omega, by omega⟩ ⟨by omega, by omega, by omega⟩ dX10_trustAt_16 ?_
      have b39 := pm_divb (x := a2) (y := y35) (by omega) (by omega)
      obtain ⟨y38, hey38⟩ : ∃ z, (a2 / y35) = z := ⟨_, rfl⟩
      rw [hey38] at b39 ⊢
      replace hT := hT.trans (pf_let_eq hey38)
      refine pm_goto (tgt := 36) hC dX10_trustAt_17 (by decide) ?_
      refine pm_istore_n (lv' := [(3, (0, y38)), (0, (3, 73)), (1, (0, a1)), (2, (0, a2))]) hC dX10_trustAt_36 (by decide) rfl ?_
      refine pm_aload_n hC 1 (by decide) dX10_trustAt_37 rfl ?_
      refine pm_iconst (v := 0) hC dX10_trustAt_38 ?_
      refine pm_iload_n hC 2 dX10_trustAt_39 rfl ?_
      refine pm_iload_n hC 0 dX10_trustAt_40 rfl ?_
      refine pm_isub hC dX10_trustAt_41 ?_
      refine pm_wr hC (fun y40 hw42 b41 => ?_)
      replace hT := hT.trans (pf_let_eq hw42)
      have b41 := And.intro b41.1 b41.2
      refine pm_mmax hC 4011 4012 1018 4013 ⟨by decide, by decide⟩ ⟨by omega, by omega⟩ (by decide) wL_X10_69 wS_mmax wI_math wC_mmax (Nat.le_of_ble_eq_true rfl) dX10_trustAt_42 (fun y43 b44 => ?_)
      have he45 : pm_mx 0 y40 = y43 := pm_mx_of b44
      replace b44 : 0 ≤ y43 ∧ y43 ≤ 2147483647 ∧ 0 ≤ y43 ∧ y40 ≤ y43 := ⟨by omega, by omega, b44.1, b44.2.1⟩
      replace hT := hT.trans (pf_let_eq he45)
      refine pm_i2l hC ⟨by omega, by omega⟩ dX10_trustAt_45 ?_
      refine pm_putf hC 73 fl_X10_30 rfl rfl rfl (by decide) rfl trivial dX10_trustAt_46 ?_
      exact pm_vret hC hR ⟨rfl, (hV0.put 73 7 (x := y43) (lo := (-9223372036854775808)) (hi := 9223372036854775807) rfl ⟨by omega, by omega⟩), ((pm_ff.rf (cs := []) (fs := [(73, 7)]) (V := V0)).upf 73 7 y43 rfl), hT⟩ dX10_trustAt_49
    · skip
      replace hT := hT.trans (if_neg (by rw [e31]; decide))
      refine pm_getf (v := 51) hC 73 fl_X10_59 rfl rfl (by decide) rfl e31 dX10_trustAt_7 ?_
      obtain ⟨y46, e47⟩ : ∃ y, V0 51 9 = y := ⟨_, rfl⟩
      have b48 := hV0.get 51 9 (lo := 0) (hi := 99) (by decide) (by decide) rfl
      rw [e47] at b48
      replace hT := hT.trans (pf_let_eq e47)
      refine pm_getf (v := y46) hC 51 fl_X10_100 rfl rfl (by decide) rfl e47 dX10_trustAt_10 ?_
      refine pm_mmax hC 4011 4012 1018 4013 ⟨by decide, by decide⟩ ⟨by omega, by omega⟩ (by decide) wL_X10_69 wS_mmax wI_math wC_mmax (Nat.le_of_ble_eq_true rfl) dX10_trustAt_13 (fun y49 b50 => ?_)
      have he51 : pm_mx 1 y46 = y49 := pm_mx_of b50
      replace b50 : 1 ≤ y49 ∧ y49 ≤ 99 ∧ 1 ≤ y49 ∧ y46 ≤ y49 := ⟨by omega, by omega, b50.1, b50.2.1⟩
      replace hT := hT.trans (pf_let_eq he51)
      refine pm_idiv hC ⟨by omega, by omega, by omega⟩ ⟨by omega, by omega, by omega⟩ dX10_trustAt_16 ?_
      have b53 := pm_divb (x := a2) (y := y49) (by omega) (by omega)
      obtain ⟨y52, hey52⟩ : ∃ z, (a2 / y49) = z := ⟨_, rfl⟩
      rw [hey52] at b53 ⊢
      replace hT := hT.trans (pf_let_eq hey52)
      refine pm_goto (tgt := 36) hC dX10_trustAt_17 (by decide) ?_
      refine pm_istore_n (lv' := [(3, (0, y52)), (0, (3, 73)), (1, (0, a1)), (2, (0, a2))]) hC dX10_trustAt_36 (by decide) rfl ?_
      refine pm_aload_n hC 1 (by decide) dX10_trustAt_37 rfl ?_
      refine pm_iconst (v := 0) hC dX10_trustAt_38 ?_
      refine pm_iload_n hC 2 dX10_trustAt_39 rfl ?_
      refine pm_iload_n hC 0 dX10_trustAt_40 rfl ?_
      refine pm_isub hC dX10_trustAt_41 ?_
      refine pm_wr hC (fun y54 hw56 b55 => ?_)
      replace hT := hT.trans (pf_let_eq hw56)
      have b55 := And.intro b55.1 b55.2
      refine pm_mmax hC 4011 4012 1018 4013 ⟨by decide, by decide⟩ ⟨by omega, by omega⟩ (by decide) wL_X10_69 wS_mmax wI_math wC_mmax (Nat.le_of_ble_eq_true rfl) dX10_trustAt_42 (fun y57 b58 => ?_)
      have he59 : pm_mx 0 y54 = y57 := pm_mx_of b58
      replace b58 : 0 ≤ y57 ∧ y57 ≤ 2147483647 ∧ 0 ≤ y57 ∧ y54 ≤ y57 := ⟨by omega, by omega, b58.1, b58.2.1⟩
      replace hT := hT.trans (pf_let_eq he59)
      refine pm_i2l hC ⟨by omega, by omega⟩ dX10_trustAt_45 ?_
      refine pm_putf hC 73 fl_X10_30 rfl rfl rfl (by decide) rfl trivial dX10_trustAt_46 ?_
      exact pm_vret hC hR ⟨rfl, (hV0.put 73 7 (x := y57) (lo := (-9223372036854775808)) (hi := 9223372036854775807) rfl ⟨by omega, by omega⟩), ((pm_ff.rf (cs := []) (fs := [(73, 7)]) (V := V0)).upf 73 7 y57 rfl), hT⟩ dX10_trustAt_49
set_option maxHeartbeats 4000000 in
set_option maxRecDepth 100000 in
theorem fD_X11_pose_0 (a1 a2 a3 : Int) (h0 : 0 ≤ a1 ∧ a1 ≤ 999) (h1 : 0 ≤ a2 ∧ a2 ≤ 99) (h2 : (-99) ≤ a3 ∧ a3 ≤ 99) (h3 : a1 % 10 ≤ 8 ∧ a1 / 10 % 10 ≤ 8) : pm_K 4 yX11_pose cX11_pose 5 none (fun av V => av = [(3, 0), (0, a1), (0, a2), (0, a3)] ∧ pm_ok 0 90 V) (fun _ V r V' => r = none ∧ pm_ok 0 90 V' ∧ pm_ff [74, 75] [(73, 0), (73, 1), (73, 2), (73, 3), (73, 4), (73, 5), (73, 6), (73, 7), (73, 10), (73, 11), (73, 12)] V V' ∧ F_X11_pose a1 a2 a3 V = (0, V')) := by
  refine pm_MT.of (by decide) ⟨Nat.le_refl _, by decide⟩ (fun av V h => by rw [h.1]; exact (by decide : pm_words [(3, 0), (0, 0), (0, 0), (0, 0)] ≤ 5)) ?_
  rintro X av V0 hC - hR ⟨rfl, hV0⟩
  change pm_J X 0 [(0, (3, 0)), (1, (0, a1)), (2, (0, a2)), (3, (0, a3))] [] 118 V0
  have hT := F_X11_pose_eq a1 a2 a3 V0
  refine pm_iload_n hC 1 dX11_pose_0 rfl ?_
  refine pm_bipush (v := 100) hC dX11_pose_1 (by decide) ?_
  refine pm_idiv hC ⟨by omega, by omega, by omega⟩ ⟨by decide, by decide, by decide⟩ dX11_pose_3 ?_
  refine pm_istore (lv' := [(4, (0, (a1 / 100))), (0, (3, 0)), (1, (0, a1)), (2, (0, a2)), (3, (0, a3))]) hC dX11_pose_4 (by decide) rfl ?_
  refine pm_aload_n hC 1 (by decide) dX11_pose_6 rfl ?_
  refine pm_iload_n hC 2 dX11_pose_7 rfl ?_
  refine pm_iload_n hC 3 dX11_pose_8 rfl ?_
  refine pm_aload_n hC 1 (by decide) dX11_pose_9 rfl ?_
  have e1 : V0 0 3 = 4 := hV0.one 0 3 (by decide) (by decide) rfl
  refine pm_getf (v := 4) hC 0 fl_X11_24 rfl rfl (by decide) rfl e1 dX11_pose_10 ?_
  have e2 : V0 4 2 = 5 := hV0.one 4 2 (by decide) (by decide) rfl
  refine pm_getf (v := 5) hC 4 fl_X11_186 rfl rfl (by decide) rfl e2 dX11_pose_13 ?_
  refine pm_iload hC 0 dX11_pose_16 rfl ?_
  obtain ⟨y3, e4⟩ : ∃ y, V0 5 ((a1 / 100) : Int).toNat = y := ⟨_, rfl⟩
  replace hT := hT.trans (pf_let_eq e4)
  have b5 := hV0.get 5 ((a1 / 100) : Int).toNat (lo := (-30)) (hi := 30) (by decide) (show _ < 10 by omega) rfl
  rw [e4] at b5
  refine pm_iaload (len := 10) (v := y3) hC 5 rfl rfl (by decide) ⟨by omega, by omega⟩ (by decide) e4 dX11_pose_18 ?_
  refine pm_aload_n hC 1 (by decide) dX11_pose_19 rfl ?_
  refine pm_getf (v := 4) hC 0 fl_X11_24 rfl rfl (by decide) rfl e1 dX11_pose_20 ?_
  have e6 : V0 4 3 = 6 := hV0.one 4 3 (by decide) (by decide) rfl
  refine pm_getf (v := 6) hC 4 fl_X11_189 rfl rfl (by decide) rfl e6 dX11_pose_23 ?_
  refine pm_iload hC 0 dX11_pose_26 rfl ?_
  obtain ⟨y7, e8⟩ : ∃ y, V0 6 ((a1 / 100) : Int).toNat = y := ⟨_, rfl⟩
  replace hT := hT.trans (pf_let_eq e8)
  have b9 := hV0.get 6 ((a1 / 100) : Int).toNat (lo := (-30)) (hi := 30) (by decide) (show _ < 10 by omega) rfl
  rw [e8] at b9
  refine pm_iaload (len := 10) (v := y7) hC 6 rfl rfl (by decide) ⟨by omega, by omega⟩ (by decide) e8 dX11_pose_28 ?_
  refine pm_callV (ci := 11) (as := [(0, a1), (0, a2), (0, y3), (0, y7)]) (st := []) hC 0 (fD_X11_poseAs_0 a1 a2 y3 y7 ⟨by omega, by omega⟩ ⟨by omega, by omega⟩ ⟨by omega, by omega⟩ ⟨by omega, by omega⟩ (by omega)) lm_X11_341 li_X11_poseAs (by decide) (by decide) rfl rfl rfl (by decide) rfl rfl (Nat.le_of_ble_eq_true rfl) ⟨Nat.le_refl _, Or.inl rfl⟩ dX11_pose_29 ⟨rfl, hV0⟩ (fun r10 V11 hp12 => ?_)
  obtain ⟨rfl, hV13, hF14, hE15⟩ := hp12
  replace hT := hT.trans (pf_call_eq hE15)
  change pm_J X 32 [(4, (0, (a1 / 100))), (0, (3, 0)), (1, (0, a1)), (2, (0, a2)), (3, (0, a3))] [] 118 V11
  have hF16 := pm_ff.tr (pm_ff.rf (cs := [74, 75]) (fs := [(73, 0), (73, 1), (73, 2), (73, 3), (73, 4), (73, 5), (73, 6), (73, 7), (73, 10), (73, 11), (73, 12)]) (V := V0)) hF14 (by decide) (by decide)
  have e17 : V11 0 3 = 4 := by rw [hF14 0 3 (by decide) (by decide)]; exact e1
  have e18 : V11 4 2 = 5 := by rw [hF14 4 2 (by decide) (by decide)]; exact e2
  have e19 : V11 4 3 = 6 := by rw [hF14 4 3 (by decide) (by decide)]; exact e6
  refine pm_aload_n hC 1 (by decide) dX11_pose_32 rfl ?_
  have e20 : V11 0 5 = 73 := hV13.one 0 5 (by decide) (by decide) rfl
  refine pm_getf (v := 73) hC 0 fl_X11_75 rfl rfl (by decide) rfl e20 dX11_pose_33 ?_
  refine pm_aload_n hC 1 (by decide) dX11_pose_36 rfl ?_
  refine pm_getf (v := 4) hC 0 fl_X11_24 rfl rfl (by decide) rfl e17 dX11_pose_37 ?_
  have e21 : V11 4 4 = 7 := hV13.one 4 4 (by decide) (by decide) rfl
  refine pm_getf (v := 7) hC 4 fl_X11_192 rfl rfl (by decide) rfl e21 dX11_pose_40 ?_
  refine pm_iload hC 0 dX11_pose_43 rfl ?_
  obtain ⟨y22, e23⟩ : ∃ y, V11 7 ((a1 / 100) : Int).toNat = y := ⟨_, rfl⟩
  replace hT := hT.trans (pf_let_eq e23)
  have b24 := hV13.get 7 ((a1 / 100) : Int).toNat (lo := 0) (hi := 16) (by decide) (show _ < 10 by omega) rfl
  rw [e23] at b24
  refine pm_iaload (len := 10) (v := y22) hC 7 rfl rfl (by decide) ⟨by omega, by omega⟩ (by decide) e23 dX11_pose_45 ?_
  refine pm_iload_n hC 4 dX11_pose_46 rfl ?_
  refine pm_callV (ci := 10) (as := [(0, y22), (0, a3)]) (st := []) hC 73 (fD_X10_trustAt_73 y22 a3 ⟨by omega, by omega⟩ ⟨by omega, by omega⟩) lm_X11_306 li_X10_trustAt (by decide) (by decide) rfl rfl rfl (by decide) rfl rfl (Nat.le_of_ble_eq_true rfl) ⟨Nat.le_refl _, Or.inl rfl⟩ dX11_pose_47 ⟨rfl, hV13⟩ (fun r25 V26 hp27 => ?_)
  obtain ⟨rfl, hV28, hF29, hE30⟩ := hp27
  replace hT := hT.trans (pf_call_eq hE30)
  change pm_J X 50 [(4, (0, (a1 / 100))), (0, (3, 0)), (1, (0, a1)), (2, (0, a2)), (3, (0, a3))] [] 118 V26
  have hF31 := pm_ff.tr hF16 hF29 (by decide) (by decide)
  have e32 : V26 0 3 = 4 := by rw [hF29 0 3 (by decide) (by decide)]; exact e17
  have e33 : V26 4 2 = 5 := by rw [hF29 4 2 (by decide) (by decide)]; exact e18
  have e34 : V26 4 3 = 6 := by rw [hF29 4 3 (by decide) (by decide)]; exact e19
  have e35 : V26 0 5 = 73 := by rw [hF29 0 5 (by decide) (by decide)]; exact e20
  have e36 : V26 4 4 = 7 := by rw [hF29 4 4 (by decide) (by decide)]; exact e21
  exact pm_vret hC hR ⟨rfl, hV28, hF31, hT⟩ dX11_pose_50
set_option maxHeartbeats 4000000 in
set_option maxRecDepth 100000 in
theorem fD_X10_weighVoice_73  : pm_K 1 yX10_weighVoice cX10_weighVoice 2 none (fun av V => av = [(3, 73)] ∧ pm_ok 0 90 V) (fun _ V r V' => r = none ∧ pm_ok 0 90 V' ∧ pm_ff [76, 77] [(73, 14)] V V' ∧ F_X10_weighVoice  V = (0, V')) := by
  refine pm_MT.of (by decide) ⟨Nat.le_refl _, by decide⟩ (fun av V h => by rw [h.1]; exact (by decide : pm_words [(3, 0)] ≤ 2)) ?_
  rintro X av V0 hC - hR ⟨rfl, hV0⟩
  change pm_J X 0 [(0, (3, 73))] [] 118 V0
  have hT := F_X10_weighVoice_eq  V0
  refine pm_iconst (v := 0) hC dX10_weighVoice_0 ?_
  refine pm_istore_n (lv' := [(1, (0, 0)), (0, (3, 73))]) hC dX10_weighVoice_1 (by decide) rfl ?_
  obtain ⟨B6, hB7, hT⟩ := pf_loop hT
  have L9 : ∀ (N11 : Nat) (x1 : Int) (V3 : pm_M), (0 ≤ x1 ∧ x1 ≤ 9) → pm_ok 0 90 V3 → pm_ff [76, 77] [(73, 14)] V0 V3 → F_X10_weighVoice  V0 = pf_val ((0 : Int), V0) B6 (x1, V3) → (Int.toNat (9 - x1)) = N11 → pm_J X 2 [(0, (3, 73)), (1, (0, x1))] [] 118 V3 := by
    intro N11
    induction N11 using Nat.strongRecOn with
    | _ N11 ih12 =>
    intro x1 V3 b2 hV4 hF5 hT hm10
    have hb8 := congrFun hB7 (x1, V3)
    refine pm_iload_n hC 1 dX10_weighVoice_2 rfl ?_
    refine pm_aload_n hC 0 (by decide) dX10_weighVoice_3 rfl ?_
    rcases hV4.get2 73 0 (lo := 45) (hi := 51) (by decide) (by decide) rfl with e13 | e13
    · skip
      replace hb8 := hb8.trans (if_pos e13)
      refine pm_getf (v := 45) hC 73 fl_X10_59 rfl rfl (by decide) rfl e13 dX10_weighVoice_4 ?_
      obtain ⟨y14, e15⟩ : ∃ y, V3 45 0 = y := ⟨_, rfl⟩
      have b16 := hV4.get 45 0 (lo := 0) (hi := 9) (by decide) (by decide) rfl
      rw [e15] at b16
      replace hb8 := hb8.trans (pf_let_eq e15)
      refine pm_getf (v := y14) hC 45 fl_X10_79 rfl rfl (by decide) rfl e15 dX10_weighVoice_7 ?_
      refine pm_icmp_ge (tgt := 31) hC ⟨by omega, by omega⟩ ⟨by omega, by omega⟩ dX10_weighVoice_10 (by decide) (fun c17 => ?_) (fun c17 => ?_)
      · skip
        replace hb8 := hb8.trans (if_pos c17)
        refine pm_aload_n hC 0 (by decide) dX10_weighVoice_31 rfl ?_
        refine pm_aload_n hC 0 (by decide) dX10_weighVoice_32 rfl ?_
        obtain ⟨y18, e19⟩ : ∃ y, V3 73 10 = y := ⟨_, rfl⟩
        have b20 := hV4.get 73 10 (lo := (-9223372036854775808)) (hi := 9223372036854775807) (by decide) (by decide) rfl
        rw [e19] at b20
        replace hb8 := hb8.trans (pf_let_eq e19)
        refine pm_getf (v := y18) hC 73 fl_X10_41 rfl rfl (by decide) rfl e19 dX10_weighVoice_33 ?_
        refine pm_putf hC 73 fl_X10_53 rfl rfl rfl (by decide) rfl trivial dX10_weighVoice_36 ?_
        have hT := hT.trans (pf_val_inr hb8)
        exact pm_vret hC hR ⟨rfl, (hV4.put 73 14 (x := y18) (lo := (-9223372036854775808)) (hi := 9223372036854775807) rfl ⟨by omega, by omega⟩), (hF5.upf 73 14 y18 rfl), hT⟩ dX10_weighVoice_39
      · skip
        replace hb8 := hb8.trans (if_neg (Int.not_le.mpr c17))
        refine pm_aload_n hC 0 (by decide) dX10_weighVoice_13 rfl ?_
        rcases hV4.get2 73 13 (lo := 76) (hi := 77) (by decide) (by decide) rfl with e21 | e21
        · skip
          replace hb8 := hb8.trans (if_pos e21)
          refine pm_getf (v := 76) hC 73 fl_X10_50 rfl rfl (by decide) rfl e21 dX10_weighVoice_14 ?_
          refine pm_iload_n hC 1 dX10_weighVoice_17 rfl ?_
          refine pm_aload_n hC 0 (by decide) dX10_weighVoice_18 rfl ?_
          have e22 : V3 73 8 = 74 := hV4.one 73 8 (by decide) (by decide) rfl
          refine pm_getf (v := 74) hC 73 fl_X10_34 rfl rfl (by decide) rfl e22 dX10_weighVoice_19 ?_
          refine pm_iload_n hC 1 dX10_weighVoice_22 rfl ?_
          obtain ⟨y23, e24⟩ : ∃ y, V3 74 (x1 : Int).toNat = y := ⟨_, rfl⟩
          replace hb8 := hb8.trans (pf_let_eq e24)
          have b25 := hV4.get 74 (x1 : Int).toNat (lo := (-9223372036854775808)) (hi := 9223372036854775807) (by decide) (show _ < 9 by omega) rfl
          rw [e24] at b25
          refine pm_laload (len := 9) (v := y23) hC 74 rfl rfl (by decide) ⟨by omega, by omega⟩ (by decide) e24 dX10_weighVoice_23 ?_
          refine pm_lastore (len := 9) hC 76 rfl rfl (by decide) ⟨by omega, by omega⟩ (by decide) dX10_weighVoice_24 ?_
          obtain ⟨x26, ei27⟩ : ∃ y : Int, x1 + 1 = y := ⟨_, rfl⟩
          replace hb8 := hb8.trans (pf_let_eq ei27)
          refine pm_iinc (y := x26) (lv' := [(1, (0, x26)), (0, (3, 73))]) hC 1 dX10_weighVoice_25 (by decide) rfl ei27 rfl ?_
          refine pm_goto (tgt := 2) hC dX10_weighVoice_28 (by decide) ?_
          refine pm_lvsub [1, 0] (lv' := [(0, (3, 73)), (1, (0, x26))]) rfl ?_
          exact ih12 _ (by omega) x26 (pm_up V3 76 (x1 : Int).toNat y23) ⟨by omega, by omega⟩ (hV4.put 76 (x1 : Int).toNat (x := y23) (lo := (-9223372036854775808)) (hi := 9223372036854775807) rfl ⟨by omega, by omega⟩) (hF5.upa 76 (x1 : Int).toNat y23 rfl) (hT.trans (pf_val_inl hb8)) rfl
        · skip
          replace hb8 := hb8.trans (if_neg (by rw [e21]; decide))
          refine pm_getf (v := 77) hC 73 fl_X10_50 rfl rfl (by decide) rfl e21 dX10_weighVoice_14 ?_
          refine pm_iload_n hC 1 dX10_weighVoice_17 rfl ?_
          refine pm_aload_n hC 0 (by decide) dX10_weighVoice_18 rfl ?_
          have e28 : V3 73 8 = 74 := hV4.one 73 8 (by decide) (by decide) rfl
          refine pm_getf (v := 74) hC 73 fl_X10_34 rfl rfl (by decide) rfl e28 dX10_weighVoice_19 ?_
          refine pm_iload_n hC 1 dX10_weighVoice_22 rfl ?_
          obtain ⟨y29, e30⟩ : ∃ y, V3 74 (x1 : Int).toNat = y := ⟨_, rfl⟩
          replace hb8 := hb8.trans (pf_let_eq e30)
          have b31 := hV4.get 74 (x1 : Int).toNat (lo := (-9223372036854775808)) (hi := 9223372036854775807) (by decide) (show _ < 9 by omega) rfl
          rw [e30] at b31
          refine pm_laload (len := 9) (v := y29) hC 74 rfl rfl (by decide) ⟨by omega, by omega⟩ (by decide) e30 dX10_weighVoice_23 ?_
          refine pm_lastore (len := 9) hC 77 rfl rfl (by decide) ⟨by omega, by omega⟩ (by decide) dX10_weighVoice_24 ?_
          obtain ⟨x32, ei33⟩ : ∃ y : Int, x1 + 1 = y := ⟨_, rfl⟩
          replace hb8 := hb8.trans (pf_let_eq ei33)
          refine pm_iinc (y := x32) (lv' := [(1, (0, x32)), (0, (3, 73))]) hC 1 dX10_weighVoice_25 (by decide) rfl ei33 rfl ?_
          refine pm_goto (tgt := 2) hC dX10_weighVoice_28 (by decide) ?_
          refine pm_lvsub [1, 0] (lv' := [(0, (3, 73)), (1, (0, x32))]) rfl ?_
          exact ih12 _ (by omega) x32 (pm_up V3 77 (x1 : Int).toNat y29) ⟨by omega, by omega⟩ (hV4.put 77 (x1 : Int).toNat (x := y29) (lo := (-9223372036854775808)) (hi := 9223372036854775807) rfl ⟨by omega, by omega⟩) (hF5.upa 77 (x1 : Int).toNat y29 rfl) (hT.trans (pf_val_inl hb8)) rfl
    · skip
      replace hb8 := hb8.trans (if_neg (by rw [e13]; decide))
      refine pm_getf (v := 51) hC 73 fl_X10_59 rfl rfl (by decide) rfl e13 dX10_weighVoice_4 ?_
      obtain ⟨y34, e35⟩ : ∃ y, V3 51 0 = y := ⟨_, rfl⟩
      have b36 := hV4.get 51 0 (lo := 0) (hi := 9) (by decide) (by decide) rfl
      rw [e35] at b36
      replace hb8 := hb8.trans (pf_let_eq e35)
      refine pm_getf (v := y34) hC 51 fl_X10_79 rfl rfl (by decide) rfl e35 dX10_weighVoice_7 ?_
      refine pm_icmp_ge (tgt := 31) hC ⟨by omega, by omega⟩ ⟨by omega, by omega⟩ dX10_weighVoice_10 (by decide) (fun c37 => ?_) (fun c37 => ?_)
      · skip
        replace hb8 := hb8.trans (if_pos c37)
        refine pm_aload_n hC 0 (by decide) dX10_weighVoice_31 rfl ?_
        refine pm_aload_n hC 0 (by decide) dX10_weighVoice_32 rfl ?_
        obtain ⟨y38, e39⟩ : ∃ y, V3 73 10 = y := ⟨_, rfl⟩
        have b40 := hV4.get 73 10 (lo := (-9223372036854775808)) (hi := 9223372036854775807) (by decide) (by decide) rfl
        rw [e39] at b40
        replace hb8 := hb8.trans (pf_let_eq e39)
        refine pm_getf (v := y38) hC 73 fl_X10_41 rfl rfl (by decide) rfl e39 dX10_weighVoice_33 ?_
        refine pm_putf hC 73 fl_X10_53 rfl rfl rfl (by decide) rfl trivial dX10_weighVoice_36 ?_
        have hT := hT.trans (pf_val_inr hb8)
        exact pm_vret hC hR ⟨rfl, (hV4.put 73 14 (x := y38) (lo := (-9223372036854775808)) (hi := 9223372036854775807) rfl ⟨by omega, by omega⟩), (hF5.upf 73 14 y38 rfl), hT⟩ dX10_weighVoice_39
      · skip
        replace hb8 := hb8.trans (if_neg (Int.not_le.mpr c37))
        refine pm_aload_n hC 0 (by decide) dX10_weighVoice_13 rfl ?_
        rcases hV4.get2 73 13 (lo := 76) (hi := 77) (by decide) (by decide) rfl with e41 | e41
        · skip
          replace hb8 := hb8.trans (if_pos e41)
          refine pm_getf (v := 76) hC 73 fl_X10_50 rfl rfl (by decide) rfl e41 dX10_weighVoice_14 ?_
          refine pm_iload_n hC 1 dX10_weighVoice_17 rfl ?_
          refine pm_aload_n hC 0 (by decide) dX10_weighVoice_18 rfl ?_
          have e42 : V3 73 8 = 74 := hV4.one 73 8 (by decide) (by decide) rfl
          refine pm_getf (v := 74) hC 73 fl_X10_34 rfl rfl (by decide) rfl e42 dX10_weighVoice_19 ?_
          refine pm_iload_n hC 1 dX10_weighVoice_22 rfl ?_
          obtain ⟨y43, e44⟩ : ∃ y, V3 74 (x1 : Int).toNat = y := ⟨_, rfl⟩
          replace hb8 := hb8.trans (pf_let_eq e44)
          have b45 := hV4.get 74 (x1 : Int).toNat (lo := (-9223372036854775808)) (hi := 9223372036854775807) (by decide) (show _ < 9 by omega) rfl
          rw [e44] at b45
          refine pm_laload (len := 9) (v := y43) hC 74 rfl rfl (by decide) ⟨by omega, by omega⟩ (by decide) e44 dX10_weighVoice_23 ?_
          refine pm_lastore (len := 9) hC 76 rfl rfl (by decide) ⟨by omega, by omega⟩ (by decide) dX10_weighVoice_24 ?_
          obtain ⟨x46, ei47⟩ : ∃ y : Int, x1 + 1 = y := ⟨_, rfl⟩
          replace hb8 := hb8.trans (pf_let_eq ei47)
          refine pm_iinc (y := x46) (lv' := [(1, (0, x46)), (0, (3, 73))]) hC 1 dX10_weighVoice_25 (by decide) rfl ei47 rfl ?_
          refine pm_goto (tgt := 2) hC dX10_weighVoice_28 (by decide) ?_
          refine pm_lvsub [1, 0] (lv' := [(0, (3, 73)), (1, (0, x46))]) rfl ?_
          exact ih12 _ (by omega) x46 (pm_up V3 76 (x1 : Int).toNat y43) ⟨by omega, by omega⟩ (hV4.put 76 (x1 : Int).toNat (x := y43) (lo := (-9223372036854775808)) (hi := 9223372036854775807) rfl ⟨by omega, by omega⟩) (hF5.upa 76 (x1 : Int).toNat y43 rfl) (hT.trans (pf_val_inl hb8)) rfl
        · skip
          replace hb8 := hb8.trans (if_neg (by rw [e41]; decide))
          refine pm_getf (v := 77) hC 73 fl_X10_50 rfl rfl (by decide) rfl e41 dX10_weighVoice_14 ?_
          refine pm_iload_n hC 1 dX10_weighVoice_17 rfl ?_
          refine pm_aload_n hC 0 (by decide) dX10_weighVoice_18 rfl ?_
          have e48 : V3 73 8 = 74 := hV4.one 73 8 (by decide) (by decide) rfl
          refine pm_getf (v := 74) hC 73 fl_X10_34 rfl rfl (by decide) rfl e48 dX10_weighVoice_19 ?_
          refine pm_iload_n hC 1 dX10_weighVoice_22 rfl ?_
          obtain ⟨y49, e50⟩ : ∃ y, V3 74 (x1 : Int).toNat = y := ⟨_, rfl⟩
          replace hb8 := hb8.trans (pf_let_eq e50)
          have b51 := hV4.get 74 (x1 : Int).toNat (lo := (-9223372036854775808)) (hi := 9223372036854775807) (by decide) (show _ < 9 by omega) rfl
          rw [e50] at b51
          refine pm_laload (len := 9) (v := y49) hC 74 rfl rfl (by decide) ⟨by omega, by omega⟩ (by decide) e50 dX10_weighVoice_23 ?_
          refine pm_lastore (len := 9) hC 77 rfl rfl (by decide) ⟨by omega, by omega⟩ (by decide) dX10_weighVoice_24 ?_
          obtain ⟨x52, ei53⟩ : ∃ y : Int, x1 + 1 = y := ⟨_, rfl⟩
          replace hb8 := hb8.trans (pf_let_eq ei53)
          refine pm_iinc (y := x52) (lv' := [(1, (0, x52)), (0, (3, 73))]) hC 1 dX10_weighVoice_25 (by decide) rfl ei53 rfl ?_
          refine pm_goto (tgt := 2) hC dX10_weighVoice_28 (by decide) ?_
          refine pm_lvsub [1, 0] (lv' := [(0, (3, 73)), (1, (0, x52))]) rfl ?_
          exact ih12 _ (by omega) x52 (pm_up V3 77 (x1 : Int).toNat y49) ⟨by omega, by omega⟩ (hV4.put 77 (x1 : Int).toNat (x := y49) (lo := (-9223372036854775808)) (hi := 9223372036854775807) rfl ⟨by omega, by omega⟩) (hF5.upa 77 (x1 : Int).toNat y49 rfl) (hT.trans (pf_val_inl hb8)) rfl
  refine pm_lvsub [1, 0] (lv' := [(0, (3, 73)), (1, (0, 0))]) rfl ?_
  exact L9 _ 0 V0 ⟨by decide, by decide⟩ hV0 (pm_ff.rf (cs := [76, 77]) (fs := [(73, 14)]) (V := V0)) hT rfl
set_option maxHeartbeats 4000000 in
set_option maxRecDepth 100000 in
theorem fD_X10_weighFace_73  : pm_K 1 yX10_weighFace cX10_weighFace 2 none (fun av V => av = [(3, 73)] ∧ pm_ok 0 90 V) (fun _ V r V' => r = none ∧ pm_ok 0 90 V' ∧ pm_ff [76, 77] [(73, 14)] V V' ∧ F_X10_weighFace  V = (0, V')) := by
  refine pm_MT.of (by decide) ⟨Nat.le_refl _, by decide⟩ (fun av V h => by rw [h.1]; exact (by decide : pm_words [(3, 0)] ≤ 2)) ?_
  rintro X av V0 hC - hR ⟨rfl, hV0⟩
  change pm_J X 0 [(0, (3, 73))] [] 118 V0
  have hT := F_X10_weighFace_eq  V0
  refine pm_aload_n hC 0 (by decide) dX10_weighFace_0 rfl ?_
  refine pm_lconst (x := 0) hC dX10_weighFace_1 rfl ?_
  refine pm_putf hC 73 fl_X10_53 rfl rfl rfl (by decide) rfl trivial dX10_weighFace_2 ?_
  refine pm_iconst (v := 0) hC dX10_weighFace_5 ?_
  refine pm_istore_n (lv' := [(1, (0, 0)), (0, (3, 73))]) hC dX10_weighFace_6 (by decide) rfl ?_
  have hV3 := (hV0.put 73 14 (x := 0) (lo := (-9223372036854775808)) (hi := 9223372036854775807) rfl ⟨by decide, by decide⟩)
  have hF4 := ((pm_ff.rf (cs := [76, 77]) (fs := [(73, 14)]) (V := V0)).upf 73 14 0 rfl)
  obtain ⟨V1, hv2⟩ : ∃ V, V = (pm_up V0 73 14 0) := ⟨_, rfl⟩
  rw [← hv2] at hV3 hF4
  rw [← hv2]
  replace hT := hT.trans (pf_let_eq hv2.symm)
  have e5 : V1 73 14 = 0 := by rw [hv2]; rfl
  obtain ⟨B11, hB12, hT⟩ := pf_loop hT
  have L14 : ∀ (N16 : Nat) (x6 : Int) (V8 : pm_M), (0 ≤ x6 ∧ x6 ≤ 9) → pm_ok 0 90 V8 → pm_ff [76, 77] [(73, 14)] V0 V8 → F_X10_weighFace  V0 = pf_val ((0 : Int), V0) B11 (x6, V8) → (Int.toNat (9 - x6)) = N16 → pm_J X 7 [(0, (3, 73)), (1, (0, x6))] [] 118 V8 := by
    intro N16
    induction N16 using Nat.strongRecOn with
    | _ N16 ih17 =>
    intro x6 V8 b7 hV9 hF10 hT hm15
    have hb13 := congrFun hB12 (x6, V8)
    refine pm_iload_n hC 1 dX10_weighFace_7 rfl ?_
    refine pm_aload_n hC 0 (by decide) dX10_weighFace_8 rfl ?_
    rcases hV9.get2 73 0 (lo := 45) (hi := 51) (by decide) (by decide) rfl with e18 | e18
    · skip
      replace hb13 := hb13.trans (if_pos e18)
      refine pm_getf (v := 45) hC 73 fl_X10_59 rfl rfl (by decide) rfl e18 dX10_weighFace_9 ?_
      obtain ⟨y19, e20⟩ : ∃ y, V8 45 0 = y := ⟨_, rfl⟩
      have b21 := hV9.get 45 0 (lo := 0) (hi := 9) (by decide) (by decide) rfl
      rw [e20] at b21
      replace hb13 := hb13.trans (pf_let_eq e20)
      refine pm_getf (v := y19) hC 45 fl_X10_79 rfl rfl (by decide) rfl e20 dX10_weighFace_12 ?_
      refine pm_icmp_ge (tgt := 62) hC ⟨by omega, by omega⟩ ⟨by omega, by omega⟩ dX10_weighFace_15 (by decide) (fun c22 => ?_) (fun c22 => ?_)
      · skip
        replace hb13 := hb13.trans (if_pos c22)
        have hT := hT.trans (pf_val_inr hb13)
        exact pm_vret hC hR ⟨rfl, hV9, hF10, hT⟩ dX10_weighFace_62
      · skip
        replace hb13 := hb13.trans (if_neg (Int.not_le.mpr c22))
        refine pm_aload_n hC 0 (by decide) dX10_weighFace_18 rfl ?_
        rcases hV9.get2 73 13 (lo := 76) (hi := 77) (by decide) (by decide) rfl with e23 | e23
        · skip
          replace hb13 := hb13.trans (if_pos e23)
          refine pm_getf (v := 76) hC 73 fl_X10_50 rfl rfl (by decide) rfl e23 dX10_weighFace_19 ?_
          refine pm_iload_n hC 1 dX10_weighFace_22 rfl ?_
          refine pm_aload_n hC 0 (by decide) dX10_weighFace_23 rfl ?_
          refine pm_getf (v := 45) hC 73 fl_X10_59 rfl rfl (by decide) rfl e18 dX10_weighFace_24 ?_
          have e24 : V8 45 3 = 48 := hV9.one 45 3 (by decide) (by decide) rfl
          refine pm_getf (v := 48) hC 45 fl_X10_90 rfl rfl (by decide) rfl e24 dX10_weighFace_27 ?_
          refine pm_iload_n hC 1 dX10_weighFace_30 rfl ?_
          obtain ⟨y25, e26⟩ : ∃ y, V8 48 (x6 : Int).toNat = y := ⟨_, rfl⟩
          replace hb13 := hb13.trans (pf_let_eq e26)
          have b27 := hV9.get 48 (x6 : Int).toNat (lo := 0) (hi := 9) (by decide) (show _ < 9 by omega) rfl
          rw [e26] at b27
          refine pm_iaload (len := 9) (v := y25) hC 48 rfl rfl (by decide) ⟨by omega, by omega⟩ (by decide) e26 dX10_weighFace_31 ?_
          refine pm_i2l hC ⟨by omega, by omega⟩ dX10_weighFace_32 ?_
          refine pm_aload_n hC 0 (by decide) dX10_weighFace_33 rfl ?_
          have e28 : V8 73 9 = 75 := hV9.one 73 9 (by decide) (by decide) rfl
          refine pm_getf (v := 75) hC 73 fl_X10_38 rfl rfl (by decide) rfl e28 dX10_weighFace_34 ?_
          refine pm_iload_n hC 1 dX10_weighFace_37 rfl ?_
          obtain ⟨y29, e30⟩ : ∃ y, V8 75 (x6 : Int).toNat = y := ⟨_, rfl⟩
          replace hb13 := hb13.trans (pf_let_eq e30)
          have b31 := hV9.get 75 (x6 : Int).toNat (lo := (-9223372036854775808)) (hi := 9223372036854775807) (by decide) (show _ < 9 by omega) rfl
          rw [e30] at b31
          refine pm_laload (len := 9) (v := y29) hC 75 rfl rfl (by decide) ⟨by omega, by omega⟩ (by decide) e30 dX10_weighFace_38 ?_
          refine pm_lmul hC dX10_weighFace_39 ?_
          refine pm_wrL hC (fun y32 hw34 b33 => ?_)
          replace hb13 := hb13.trans (pf_let_eq hw34)
          have b33 := And.intro b33.1 b33.2
          refine pm_lastore (len := 9) hC 76 rfl rfl (by decide) ⟨by omega, by omega⟩ (by decide) dX10_weighFace_40 ?_
          refine pm_aload_n hC 0 (by decide) dX10_weighFace_41 rfl ?_
          refine pm_dup hC rfl dX10_weighFace_42 ?_
          obtain ⟨y35, e36⟩ : ∃ y, V8 73 14 = y := ⟨_, rfl⟩
          have b37 := hV9.get 73 14 (lo := (-9223372036854775808)) (hi := 9223372036854775807) (by decide) (by decide) rfl
          rw [e36] at b37
          replace hb13 := hb13.trans (pf_let_eq e36)
          refine pm_getf (v := y35) hC 73 fl_X10_53 rfl rfl (by decide) rfl e36 dX10_weighFace_43 ?_
          refine pm_aload_n hC 0 (by decide) dX10_weighFace_46 rfl ?_
          refine pm_getf (v := 76) hC 73 fl_X10_50 rfl rfl (by decide) rfl e23 dX10_weighFace_47 ?_
          refine pm_iload_n hC 1 dX10_weighFace_50 rfl ?_
          have hV40 := (hV9.put 76 (x6 : Int).toNat (x := y32) (lo := (-9223372036854775808)) (hi := 9223372036854775807) rfl ⟨by omega, by omega⟩)
          have hF41 := (hF10.upa 76 (x6 : Int).toNat y32 rfl)
          obtain ⟨V38, hv39⟩ : ∃ V, V = (pm_up V8 76 (x6 : Int).toNat y32) := ⟨_, rfl⟩
          rw [← hv39] at hV40 hF41
          rw [← hv39]
          replace hb13 := hb13.trans (pf_let_eq hv39.symm)
          have e42 : V38 73 0 = 45 := by rw [hv39]; exact e18
          have e43 : V38 45 0 = y19 := by rw [hv39]; exact e20
          have e44 : V38 73 13 = 76 := by rw [hv39]; exact e23
          have e45 : V38 45 3 = 48 := by rw [hv39]; exact e24
          have e46 : V38 73 9 = 75 := by rw [hv39]; exact e28
          have e47 : V38 73 14 = y35 := by rw [hv39]; exact e36
          obtain ⟨y48, e49⟩ : ∃ y, V38 76 (x6 : Int).toNat = y := ⟨_, rfl⟩
          replace hb13 := hb13.trans (pf_let_eq e49)
          have b50 := hV40.get 76 (x6 : Int).toNat (lo := (-9223372036854775808)) (hi := 9223372036854775807) (by decide) (show _ < 9 by omega) rfl
          rw [e49] at b50
          refine pm_laload (len := 9) (v := y48) hC 76 rfl rfl (by decide) ⟨by omega, by omega⟩ (by decide) e49 dX10_weighFace_51 ?_
          refine pm_ladd hC dX10_weighFace_52 ?_
          refine pm_wrL hC (fun y51 hw53 b52 => ?_)
          replace hb13 := hb13.trans (pf_let_eq hw53)
          have b52 := And.intro b52.1 b52.2
          refine pm_putf hC 73 fl_X10_53 rfl rfl rfl (by decide) rfl trivial dX10_weighFace_53 ?_
          obtain ⟨x54, ei55⟩ : ∃ y : Int, x6 + 1 = y := ⟨_, rfl⟩
          replace hb13 := hb13.trans (pf_let_eq ei55)
          refine pm_iinc (y := x54) (lv' := [(1, (0, x54)), (0, (3, 73))]) hC 1 dX10_weighFace_56 (by decide) rfl ei55 rfl ?_
          refine pm_goto (tgt := 7) hC dX10_weighFace_59 (by decide) ?_
          refine pm_lvsub [1, 0] (lv' := [(0, (3, 73)), (1, (0, x54))]) rfl ?_
          exact ih17 _ (by omega) x54 (pm_up V38 73 14 y51) ⟨by omega, by omega⟩ (hV40.put 73 14 (x := y51) (lo := (-9223372036854775808)) (hi := 9223372036854775807) rfl ⟨by omega, by omega⟩) (hF41.upf 73 14 y51 rfl) (hT.trans (pf_val_inl hb13)) rfl
        · skip
          replace hb13 := hb13.trans (if_neg (by rw [e23]; decide))
          refine pm_getf (v := 77) hC 73 fl_X10_50 rfl rfl (by decide) rfl e23 dX10_weighFace_19 ?_
          refine pm_iload_n hC 1 dX10_weighFace_22 rfl ?_
          refine pm_aload_n hC 0 (by decide) dX10_weighFace_23 rfl ?_
          refine pm_getf (v := 45) hC 73 fl_X10_59 rfl rfl (by decide) rfl e18 dX10_weighFace_24 ?_
          have e56 : V8 45 3 = 48 := hV9.one 45 3 (by decide) (by decide) rfl
          refine pm_getf (v := 48) hC 45 fl_X10_90 rfl rfl (by decide) rfl e56 dX10_weighFace_27 ?_
          refine pm_iload_n hC 1 dX10_weighFace_30 rfl ?_
          obtain ⟨y57, e58⟩ : ∃ y, V8 48 (x6 : Int).toNat = y := ⟨_, rfl⟩
          replace hb13 := hb13.trans (pf_let_eq e58)
          have b59 := hV9.get 48 (x6 : Int).toNat (lo := 0) (hi := 9) (by decide) (show _ < 9 by omega) rfl
          rw [e58] at b59
          refine pm_iaload (len := 9) (v := y57) hC 48 rfl rfl (by decide) ⟨by omega, by omega⟩ (by decide) e58 dX10_weighFace_31 ?_
          refine pm_i2l hC ⟨by omega, by omega⟩ dX10_weighFace_32 ?_
          refine pm_aload_n hC 0 (by decide) dX10_weighFace_33 rfl ?_
          have e60 : V8 73 9 = 75 := hV9.one 73 9 (by decide) (by decide) rfl
          refine pm_getf (v := 75) hC 73 fl_X10_38 rfl rfl (by decide) rfl e60 dX10_weighFace_34 ?_
          refine pm_iload_n hC 1 dX10_weighFace_37 rfl ?_
          obtain ⟨y61, e62⟩ : ∃ y, V8 75 (x6 : Int).toNat = y := ⟨_, rfl⟩
          replace hb13 := hb13.trans (pf_let_eq e62)
          have b63 := hV9.get 75 (x6 : Int).toNat (lo := (-9223372036854775808)) (hi := 9223372036854775807) (by decide) (show _ < 9 by omega) rfl
          rw [e62] at b63
          refine pm_laload (len := 9) (v := y61) hC 75 rfl rfl (by decide) ⟨by omega, by omega⟩ (by decide) e62 dX10_weighFace_38 ?_
          refine pm_lmul hC dX10_weighFace_39 ?_
          refine pm_wrL hC (fun y64 hw66 b65 => ?_)
          replace hb13 := hb13.trans (pf_let_eq hw66)
          have b65 := And.intro b65.1 b65.2
          refine pm_lastore (len := 9) hC 77 rfl rfl (by decide) ⟨by omega, by omega⟩ (by decide) dX10_weighFace_40 ?_
          refine pm_aload_n hC 0 (by decide) dX10_weighFace_41 rfl ?_
          refine pm_dup hC rfl dX10_weighFace_42 ?_
          obtain ⟨y67, e68⟩ : ∃ y, V8 73 14 = y := ⟨_, rfl⟩
          have b69 := hV9.get 73 14 (lo := (-9223372036854775808)) (hi := 9223372036854775807) (by decide) (by decide) rfl
          rw [e68] at b69
          replace hb13 := hb13.trans (pf_let_eq e68)
          refine pm_getf (v := y67) hC 73 fl_X10_53 rfl rfl (by decide) rfl e68 dX10_weighFace_43 ?_
          refine pm_aload_n hC 0 (by decide) dX10_weighFace_46 rfl ?_
          refine pm_getf (v := 77) hC 73 fl_X10_50 rfl rfl (by decide) rfl e23 dX10_weighFace_47 ?_
          refine pm_iload_n hC 1 dX10_weighFace_50 rfl ?_
          have hV72 := (hV9.put 77 (x6 : Int).toNat (x := y64) (lo := (-9223372036854775808)) (hi := 9223372036854775807) rfl ⟨by omega, by omega⟩)
          have hF73 := (hF10.upa 77 (x6 : Int).toNat y64 rfl)
          obtain ⟨V70, hv71⟩ : ∃ V, V = (pm_up V8 77 (x6 : Int).toNat y64) := ⟨_, rfl⟩
          rw [← hv71] at hV72 hF73
          rw [← hv71]
          replace hb13 := hb13.trans (pf_let_eq hv71.symm)
          have e74 : V70 73 0 = 45 := by rw [hv71]; exact e18
          have e75 : V70 45 0 = y19 := by rw [hv71]; exact e20
          have e76 : V70 73 13 = 77 := by rw [hv71]; exact e23
          have e77 : V70 45 3 = 48 := by rw [hv71]; exact e56
          have e78 : V70 73 9 = 75 := by rw [hv71]; exact e60
          have e79 : V70 73 14 = y67 := by rw [hv71]; exact e68
          obtain ⟨y80, e81⟩ : ∃ y, V70 77 (x6 : Int).toNat = y := ⟨_, rfl⟩
          replace hb13 := hb13.trans (pf_let_eq e81)
          have b82 := hV72.get 77 (x6 : Int).toNat (lo := (-9223372036854775808)) (hi := 9223372036854775807) (by decide) (show _ < 9 by omega) rfl
          rw [e81] at b82
          refine pm_laload (len := 9) (v := y80) hC 77 rfl rfl (by decide) ⟨by omega, by omega⟩ (by decide) e81 dX10_weighFace_51 ?_
          refine pm_ladd hC dX10_weighFace_52 ?_
          refine pm_wrL hC (fun y83 hw85 b84 => ?_)
          replace hb13 := hb13.trans (pf_let_eq hw85)
          have b84 := And.intro b84.1 b84.2
          refine pm_putf hC 73 fl_X10_53 rfl rfl rfl (by decide) rfl trivial dX10_weighFace_53 ?_
          obtain ⟨x86, ei87⟩ : ∃ y : Int, x6 + 1 = y := ⟨_, rfl⟩
          replace hb13 := hb13.trans (pf_let_eq ei87)
          refine pm_iinc (y := x86) (lv' := [(1, (0, x86)), (0, (3, 73))]) hC 1 dX10_weighFace_56 (by decide) rfl ei87 rfl ?_
          refine pm_goto (tgt := 7) hC dX10_weighFace_59 (by decide) ?_
          refine pm_lvsub [1, 0] (lv' := [(0, (3, 73)), (1, (0, x86))]) rfl ?_
          exact ih17 _ (by omega) x86 (pm_up V70 73 14 y83) ⟨by omega, by omega⟩ (hV72.put 73 14 (x := y83) (lo := (-9223372036854775808)) (hi := 9223372036854775807) rfl ⟨by omega, by omega⟩) (hF73.upf 73 14 y83 rfl) (hT.trans (pf_val_inl hb13)) rfl
    · skip
      replace hb13 := hb13.trans (if_neg (by rw [e18]; decide))
      refine pm_getf (v := 51) hC 73 fl_X10_59 rfl rfl (by decide) rfl e18 dX10_weighFace_9 ?_
      obtain ⟨y88, e89⟩ : ∃ y, V8 51 0 = y := ⟨_, rfl⟩
      have b90 := hV9.get 51 0 (lo := 0) (hi := 9) (by decide) (by decide) rfl
      rw [e89] at b90
      replace hb13 := hb13.trans (pf_let_eq e89)
      refine pm_getf (v := y88) hC 51 fl_X10_79 rfl rfl (by decide) rfl e89 dX10_weighFace_12 ?_
      refine pm_icmp_ge (tgt := 62) hC ⟨by omega, by omega⟩ ⟨by omega, by omega⟩ dX10_weighFace_15 (by decide) (fun c91 => ?_) (fun c91 => ?_)
      · skip
        replace hb13 := hb13.trans (if_pos c91)
        have hT := hT.trans (pf_val_inr hb13)
        exact pm_vret hC hR ⟨rfl, hV9, hF10, hT⟩ dX10_weighFace_62
      · skip
        replace hb13 := hb13.trans (if_neg (Int.not_le.mpr c91))
        refine pm_aload_n hC 0 (by decide) dX10_weighFace_18 rfl ?_
        rcases hV9.get2 73 13 (lo := 76) (hi := 77) (by decide) (by decide) rfl with e92 | e92
        · skip
          replace hb13 := hb13.trans (if_pos e92)
          refine pm_getf (v := 76) hC 73 fl_X10_50 rfl rfl (by decide) rfl e92 dX10_weighFace_19 ?_
          refine pm_iload_n hC 1 dX10_weighFace_22 rfl ?_
          refine pm_aload_n hC 0 (by decide) dX10_weighFace_23 rfl ?_
          refine pm_getf (v := 51) hC 73 fl_X10_59 rfl rfl (by decide) rfl e18 dX10_weighFace_24 ?_
          have e93 : V8 51 3 = 54 := hV9.one 51 3 (by decide) (by decide) rfl
          refine pm_getf (v := 54) hC 51 fl_X10_90 rfl rfl (by decide) rfl e93 dX10_weighFace_27 ?_
          refine pm_iload_n hC 1 dX10_weighFace_30 rfl ?_
          obtain ⟨y94, e95⟩ : ∃ y, V8 54 (x6 : Int).toNat = y := ⟨_, rfl⟩
          replace hb13 := hb13.trans (pf_let_eq e95)
          have b96 := hV9.get 54 (x6 : Int).toNat (lo := 0) (hi := 9) (by decide) (show _ < 9 by omega) rfl
          rw [e95] at b96
          refine pm_iaload (len := 9) (v := y94) hC 54 rfl rfl (by decide) ⟨by omega, by omega⟩ (by decide) e95 dX10_weighFace_31 ?_
          refine pm_i2l hC ⟨by omega, by omega⟩ dX10_weighFace_32 ?_
          refine pm_aload_n hC 0 (by decide) dX10_weighFace_33 rfl ?_
          have e97 : V8 73 9 = 75 := hV9.one 73 9 (by decide) (by decide) rfl
          refine pm_getf (v := 75) hC 73 fl_X10_38 rfl rfl (by decide) rfl e97 dX10_weighFace_34 ?_
          refine pm_iload_n hC 1 dX10_weighFace_37 rfl ?_
          obtain ⟨y98, e99⟩ : ∃ y, V8 75 (x6 : Int).toNat = y := ⟨_, rfl⟩
          replace hb13 := hb13.trans (pf_let_eq e99)
          have b100 := hV9.get 75 (x6 : Int).toNat (lo := (-9223372036854775808)) (hi := 9223372036854775807) (by decide) (show _ < 9 by omega) rfl
          rw [e99] at b100
          refine pm_laload (len := 9) (v := y98) hC 75 rfl rfl (by decide) ⟨by omega, by omega⟩ (by decide) e99 dX10_weighFace_38 ?_
          refine pm_lmul hC dX10_weighFace_39 ?_
          refine pm_wrL hC (fun y101 hw103 b102 => ?_)
          replace hb13 := hb13.trans (pf_let_eq hw103)
          have b102 := And.intro b102.1 b102.2
          refine pm_lastore (len := 9) hC 76 rfl rfl (by decide) ⟨by omega, by omega⟩ (by decide) dX10_weighFace_40 ?_
          refine pm_aload_n hC 0 (by decide) dX10_weighFace_41 rfl ?_
          refine pm_dup hC rfl dX10_weighFace_42 ?_
          obtain ⟨y104, e105⟩ : ∃ y, V8 73 14 = y := ⟨_, rfl⟩
          have b106 := hV9.get 73 14 (lo := (-9223372036854775808)) (hi := 9223372036854775807) (by decide) (by decide) rfl
          rw [e105] at b106
          replace hb13 := hb13.trans (pf_let_eq e105)
          refine pm_getf (v := y104) hC 73 fl_X10_53 rfl rfl (by decide) rfl e105 dX10_weighFace_43 ?_
          refine pm_aload_n hC 0 (by decide) dX10_weighFace_46 rfl ?_
          refine pm_getf (v := 76) hC 73 fl_X10_50 rfl rfl (by decide) rfl e92 dX10_weighFace_47 ?_
          refine pm_iload_n hC 1 dX10_weighFace_50 rfl ?_
          have hV109 := (hV9.put 76 (x6 : Int).toNat (x := y101) (lo := (-9223372036854775808)) (hi := 9223372036854775807) rfl ⟨by omega, by omega⟩)
          have hF110 := (hF10.upa 76 (x6 : Int).toNat y101 rfl)
          obtain ⟨V107, hv108⟩ : ∃ V, V = (pm_up V8 76 (x6 : Int).toNat y101) := ⟨_, rfl⟩
          rw [← hv108] at hV109 hF110
          rw [← hv108]
          replace hb13 := hb13.trans (pf_let_eq hv108.symm)
          have e111 : V107 73 0 = 51 := by rw [hv108]; exact e18
          have e112 : V107 51 0 = y88 := by rw [hv108]; exact e89
          have e113 : V107 73 13 = 76 := by rw [hv108]; exact e92
          have e114 : V107 51 3 = 54 := by rw [hv108]; exact e93
          have e115 : V107 73 9 = 75 := by rw [hv108]; exact e97
          have e116 : V107 73 14 = y104 := by rw [hv108]; exact e105
          obtain ⟨y117, e118⟩ : ∃ y, V107 76 (x6 : Int).toNat = y := ⟨_, rfl⟩
          replace hb13 := hb13.trans (pf_let_eq e118)
          have b119 := hV109.get 76 (x6 : Int).toNat (lo := (-9223372036854775808)) (hi := 9223372036854775807) (by decide) (show _ < 9 by omega) rfl
          rw [e118] at b119
          refine pm_laload (len := 9) (v := y117) hC 76 rfl rfl (by decide) ⟨by omega, by omega⟩ (by decide) e118 dX10_weighFace_51 ?_
          refine pm_ladd hC dX10_weighFace_52 ?_
          refine pm_wrL hC (fun y120 hw122 b121 => ?_)
          replace hb13 := hb13.trans (pf_let_eq hw122)
          have b121 := And.intro b121.1 b121.2
          refine pm_putf hC 73 fl_X10_53 rfl rfl rfl (by decide) rfl trivial dX10_weighFace_53 ?_
          obtain ⟨x123, ei124⟩ : ∃ y : Int, x6 + 1 = y := ⟨_, rfl⟩
          replace hb13 := hb13.trans (pf_let_eq ei124)
          refine pm_iinc (y := x123) (lv' := [(1, (0, x123)), (0, (3, 73))]) hC 1 dX10_weighFace_56 (by decide) rfl ei124 rfl ?_
          refine pm_goto (tgt := 7) hC dX10_weighFace_59 (by decide) ?_
          refine pm_lvsub [1, 0] (lv' := [(0, (3, 73)), (1, (0, x123))]) rfl ?_
          exact ih17 _ (by omega) x123 (pm_up V107 73 14 y120) ⟨by omega, by omega⟩ (hV109.put 73 14 (x := y120) (lo := (-9223372036854775808)) (hi := 9223372036854775807) rfl ⟨by omega, by omega⟩) (hF110.upf 73 14 y120 rfl) (hT.trans (pf_val_inl hb13)) rfl
        · skip
          replace hb13 := hb13.trans (if_neg (by rw [e92]; decide))
          refine pm_getf (v := 77) hC 73 fl_X10_50 rfl rfl (by decide) rfl e92 dX10_weighFace_19 ?_
          refine pm_iload_n hC 1 dX10_weighFace_22 rfl ?_
          refine pm_aload_n hC 0 (by decide) dX10_weighFace_23 rfl ?_
          refine pm_getf (v := 51) hC 73 fl_X10_59 rfl rfl (by decide) rfl e18 dX10_weighFace_24 ?_
          have e125 : V8 51 3 = 54 := hV9.one 51 3 (by decide) (by decide) rfl
          refine pm_getf (v := 54) hC 51 fl_X10_90 rfl rfl (by decide) rfl e125 dX10_weighFace_27 ?_
          refine pm_iload_n hC 1 dX10_weighFace_30 rfl ?_
          obtain ⟨y126, e127⟩ : ∃ y, V8 54 (x6 : Int).toNat = y := ⟨_, rfl⟩
          replace hb13 := hb13.trans (pf_let_eq e127)
          have b128 := hV9.get 54 (x6 : Int).toNat (lo := 0) (hi := 9) (by decide) (show _ < 9 by omega) rfl
          rw [e127] at b128
          refine pm_iaload (len := 9) (v := y126) hC 54 rfl rfl (by decide) ⟨by omega, by omega⟩ (by decide) e127 dX10_weighFace_31 ?_
          refine pm_i2l hC ⟨by omega, by omega⟩ dX10_weighFace_32 ?_
          refine pm_aload_n hC 0 (by decide) dX10_weighFace_33 rfl ?_
          have e129 : V8 73 9 = 75 := hV9.one 73 9 (by decide) (by decide) rfl
          refine pm_getf (v := 75) hC 73 fl_X10_38 rfl rfl (by decide) rfl e129 dX10_weighFace_34 ?_
          refine pm_iload_n hC 1 dX10_weighFace_37 rfl ?_
          obtain ⟨y130, e131⟩ : ∃ y, V8 75 (x6 : Int).toNat = y := ⟨_, rfl⟩
          replace hb13 := hb13.trans (pf_let_eq e131)
          have b132 := hV9.get 75 (x6 : Int).toNat (lo := (-9223372036854775808)) (hi := 9223372036854775807) (by decide) (show _ < 9 by omega) rfl
          rw [e131] at b132
          refine pm_laload (len := 9) (v := y130) hC 75 rfl rfl (by decide) ⟨by omega, by omega⟩ (by decide) e131 dX10_weighFace_38 ?_
          refine pm_lmul hC dX10_weighFace_39 ?_
          refine pm_wrL hC (fun y133 hw135 b134 => ?_)
          replace hb13 := hb13.trans (pf_let_eq hw135)
          have b134 := And.intro b134.1 b134.2
          refine pm_lastore (len := 9) hC 77 rfl rfl (by decide) ⟨by omega, by omega⟩ (by decide) dX10_weighFace_40 ?_
          refine pm_aload_n hC 0 (by decide) dX10_weighFace_41 rfl ?_
          refine pm_dup hC rfl dX10_weighFace_42 ?_
          obtain ⟨y136, e137⟩ : ∃ y, V8 73 14 = y := ⟨_, rfl⟩
          have b138 := hV9.get 73 14 (lo := (-9223372036854775808)) (hi := 9223372036854775807) (by decide) (by decide) rfl
          rw [e137] at b138
          replace hb13 := hb13.trans (pf_let_eq e137)
          refine pm_getf (v := y136) hC 73 fl_X10_53 rfl rfl (by decide) rfl e137 dX10_weighFace_43 ?_
          refine pm_aload_n hC 0 (by decide) dX10_weighFace_46 rfl ?_
          refine pm_getf (v := 77) hC 73 fl_X10_50 rfl rfl (by decide) rfl e92 dX10_weighFace_47 ?_
          refine pm_iload_n hC 1 dX10_weighFace_50 rfl ?_
          have hV141 := (hV9.put 77 (x6 : Int).toNat (x := y133) (lo := (-9223372036854775808)) (hi := 9223372036854775807) rfl ⟨by omega, by omega⟩)
          have hF142 := (hF10.upa 77 (x6 : Int).toNat y133 rfl)
          obtain ⟨V139, hv140⟩ : ∃ V, V = (pm_up V8 77 (x6 : Int).toNat y133) := ⟨_, rfl⟩
          rw [← hv140] at hV141 hF142
          rw [← hv140]
          replace hb13 := hb13.trans (pf_let_eq hv140.symm)
          have e143 : V139 73 0 = 51 := by rw [hv140]; exact e18
          have e144 : V139 51 0 = y88 := by rw [hv140]; exact e89
          have e145 : V139 73 13 = 77 := by rw [hv140]; exact e92
          have e146 : V139 51 3 = 54 := by rw [hv140]; exact e125
          have e147 : V139 73 9 = 75 := by rw [hv140]; exact e129
          have e148 : V139 73 14 = y136 := by rw [hv140]; exact e137
          obtain ⟨y149, e150⟩ : ∃ y, V139 77 (x6 : Int).toNat = y := ⟨_, rfl⟩
          replace hb13 := hb13.trans (pf_let_eq e150)
          have b151 := hV141.get 77 (x6 : Int).toNat (lo := (-9223372036854775808)) (hi := 9223372036854775807) (by decide) (show _ < 9 by omega) rfl
          rw [e150] at b151
          refine pm_laload (len := 9) (v := y149) hC 77 rfl rfl (by decide) ⟨by omega, by omega⟩ (by decide) e150 dX10_weighFace_51 ?_
          refine pm_ladd hC dX10_weighFace_52 ?_
          refine pm_wrL hC (fun y152 hw154 b153 => ?_)
          replace hb13 := hb13.trans (pf_let_eq hw154)
          have b153 := And.intro b153.1 b153.2
          refine pm_putf hC 73 fl_X10_53 rfl rfl rfl (by decide) rfl trivial dX10_weighFace_53 ?_
          obtain ⟨x155, ei156⟩ : ∃ y : Int, x6 + 1 = y := ⟨_, rfl⟩
          replace hb13 := hb13.trans (pf_let_eq ei156)
          refine pm_iinc (y := x155) (lv' := [(1, (0, x155)), (0, (3, 73))]) hC 1 dX10_weighFace_56 (by decide) rfl ei156 rfl ?_
          refine pm_goto (tgt := 7) hC dX10_weighFace_59 (by decide) ?_
          refine pm_lvsub [1, 0] (lv' := [(0, (3, 73)), (1, (0, x155))]) rfl ?_
          exact ih17 _ (by omega) x155 (pm_up V139 73 14 y152) ⟨by omega, by omega⟩ (hV141.put 73 14 (x := y152) (lo := (-9223372036854775808)) (hi := 9223372036854775807) rfl ⟨by omega, by omega⟩) (hF142.upf 73 14 y152 rfl) (hT.trans (pf_val_inl hb13)) rfl
  refine pm_lvsub [1, 0] (lv' := [(0, (3, 73)), (1, (0, 0))]) rfl ?_
  exact L14 _ 0 V1 ⟨by decide, by decide⟩ hV3 hF4 hT rfl
