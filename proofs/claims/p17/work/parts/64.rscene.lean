noncomputable def F_X12_named (V0 : pm_M) : Int × pm_M := pf_val ((0 : Int), V0) (fun (q : Int) => match q with | x1 => (pf_let (V0 90 6) fun y10 => (if y10 ≤ x1 then ((.inr ((-1), V0))) else (pf_call (F_X12_isName  V0) fun y17 _ => (if y17 = 0 then ((.inr ((-1), V0))) else (pf_let (V0 92 (x1 : Int).toNat) fun y22 => pf_let (V0 90 5) fun y25 => pf_let (pm_cmp y22 y25) fun y28 => (if ¬ (y28 = 0) then (pf_let (x1 + 1) fun x31 => (.inl x31)) else ((.inr (x1, V0)))))))))) 0
theorem F_X12_named_eq (V0 : pm_M) : F_X12_named V0 = pf_val ((0 : Int), V0) (fun (q : Int) => match q with | x1 => (pf_let (V0 90 6) fun y10 => (if y10 ≤ x1 then ((.inr ((-1), V0))) else (pf_call (F_X12_isName  V0) fun y17 _ => (if y17 = 0 then ((.inr ((-1), V0))) else (pf_let (V0 92 (x1 : Int).toNat) fun y22 => pf_let (V0 90 5) fun y25 => pf_let (pm_cmp y22 y25) fun y28 => (if ¬ (y28 = 0) then (pf_let (x1 + 1) fun x31 => (.inl x31)) else ((.inr (x1, V0)))))))))) 0 := rfl
noncomputable def F_X12_closes (V0 : pm_M) : Int × pm_M := pf_let (V0 90 1) fun y1 => pf_let (V0 90 2) fun y4 => pf_let (V0 90 3) fun y7 => pf_let (V0 90 4) fun y10 => pf_call (F_X12_isSign 59 V0) fun y16 _ => (if ¬ (y16 = 0) then (pf_call (F_X12_leads  V0) fun _ V21 => pf_let (V21 90 2) fun y29 => pf_let (V21 90 3) fun y32 => pf_let (V21 90 4) fun y35 => (1, V21)) else ((0, V0)))
theorem F_X12_closes_eq (V0 : pm_M) : F_X12_closes V0 = pf_let (V0 90 1) fun y1 => pf_let (V0 90 2) fun y4 => pf_let (V0 90 3) fun y7 => pf_let (V0 90 4) fun y10 => pf_call (F_X12_isSign 59 V0) fun y16 _ => (if ¬ (y16 = 0) then (pf_call (F_X12_leads  V0) fun _ V21 => pf_let (V21 90 2) fun y29 => pf_let (V21 90 3) fun y32 => pf_let (V21 90 4) fun y35 => (1, V21)) else ((0, V0))) := rfl
noncomputable def F_X12_learnLine (V0 : pm_M) : Int × pm_M := pf_let (V0 90 1) fun y1 => pf_let (V0 90 2) fun y4 => pf_let (V0 90 13) fun y7 => (if ¬ (y7 = 12) then (pf_val ((0 : Int), V0) (fun (q : Int × pm_M) => match q with | (x11, V13) => ((if 3 ≤ x11 then (pf_let (V13 90 2) fun y29 => pf_let (V13 90 3) fun y32 => pf_let (V13 90 4) fun y35 => pf_call (F_X12_leads  V13) fun _ V39 => pf_let (V39 90 2) fun y48 => pf_let (V39 90 3) fun y51 => pf_let (V39 90 4) fun y54 => pf_let ((pm_up V39 90 13 (y7 + 1))) fun V59 => pf_call (F_X12_closes  V59) fun y73 V71 => pf_let (V71 90 2) fun y83 => pf_let (V71 90 3) fun y86 => pf_let (V71 90 4) fun y89 => (.inr (y73, V71))) else (pf_let (V13 90 2) fun y92 => pf_let (V13 90 3) fun y95 => pf_let (V13 90 4) fun y98 => pf_call (F_X12_leads  V13) fun _ V102 => pf_let (V102 90 2) fun y111 => pf_let (V102 90 3) fun y114 => pf_let (V102 90 4) fun y117 => pf_call (F_X12_named  V102) fun y126 _ => pf_let ((pm_up V102 96 (((3 * y7) + x11) : Int).toNat y126)) fun V129 => pf_let (V129 96 (((3 * y7) + x11) : Int).toNat) fun y141 => (if ¬ (y141 = (-1)) then (pf_val (.inr ((0 : Int), V0)) (fun (q : Int) => match q with | x145 => ((if y7 ≤ x145 then (pf_let (x11 + 1) fun x155 => (.inr (.inl (x155, V129)))) else ((if ¬ (x11 = 1) then (pf_let (x11 + 1) fun x158 => (.inr (.inl (x158, V129)))) else (pf_let (V129 96 ((3 * x145) : Int).toNat) fun y160 => pf_let (V129 96 ((3 * y7) : Int).toNat) fun y163 => (if ¬ (y160 = y163) then (pf_let (x145 + 1) fun x167 => (.inl x167)) else (pf_let (V129 96 (((3 * x145) + 1) : Int).toNat) fun y169 => pf_let (V129 96 (((3 * y7) + 1) : Int).toNat) fun y172 => (if ¬ (y169 = y172) then (pf_let (x145 + 1) fun x176 => (.inl x176)) else ((.inr (.inr (0, V129))))))))))))) 0) else ((.inr (0, V129)))))))) (0, V0)) else (pf_let (V0 90 3) fun y178 => pf_let (V0 90 4) fun y181 => (0, V0)))
theorem F_X12_learnLine_eq (V0 : pm_M) : F_X12_learnLine V0 = pf_let (V0 90 1) fun y1 => pf_let (V0 90 2) fun y4 => pf_let (V0 90 13) fun y7 => (if ¬ (y7 = 12) then (pf_val ((0 : Int), V0) (fun (q : Int × pm_M) => match q with | (x11, V13) => ((if 3 ≤ x11 then (pf_let (V13 90 2) fun y29 => pf_let (V13 90 3) fun y32 => pf_let (V13 90 4) fun y35 => pf_call (F_X12_leads  V13) fun _ V39 => pf_let (V39 90 2) fun y48 => pf_let (V39 90 3) fun y51 => pf_let (V39 90 4) fun y54 => pf_let ((pm_up V39 90 13 (y7 + 1))) fun V59 => pf_call (F_X12_closes  V59) fun y73 V71 => pf_let (V71 90 2) fun y83 => pf_let (V71 90 3) fun y86 => pf_let (V71 90 4) fun y89 => (.inr (y73, V71))) else (pf_let (V13 90 2) fun y92 => pf_let (V13 90 3) fun y95 => pf_let (V13 90 4) fun y98 => pf_call (F_X12_leads  V13) fun _ V102 => pf_let (V102 90 2) fun y111 => pf_let (V102 90 3) fun y114 => pf_let (V102 90 4) fun y117 => pf_call (F_X12_named  V102) fun y126 _ => pf_let ((pm_up V102 96 (((3 * y7) + x11) : Int).toNat y126)) fun V129 => pf_let (V129 96 (((3 * y7) + x11) : Int).toNat) fun y141 => (if ¬ (y141 = (-1)) then (pf_val (.inr ((0 : Int), V0)) (fun (q : Int) => match q with | x145 => ((if y7 ≤ x145 then (pf_let (x11 + 1) fun x155 => (.inr (.inl (x155, V129)))) else ((if ¬ (x11 = 1) then (pf_let (x11 + 1) fun x158 => (.inr (.inl (x158, V129)))) else (pf_let (V129 96 ((3 * x145) : Int).toNat) fun y160 => pf_let (V129 96 ((3 * y7) : Int).toNat) fun y163 => (if ¬ (y160 = y163) then (pf_let (x145 + 1) fun x167 => (.inl x167)) else (pf_let (V129 96 (((3 * x145) + 1) : Int).toNat) fun y169 => pf_let (V129 96 (((3 * y7) + 1) : Int).toNat) fun y172 => (if ¬ (y169 = y172) then (pf_let (x145 + 1) fun x176 => (.inl x176)) else ((.inr (.inr (0, V129))))))))))))) 0) else ((.inr (0, V129)))))))) (0, V0)) else (pf_let (V0 90 3) fun y178 => pf_let (V0 90 4) fun y181 => (0, V0))) := rfl
noncomputable def F_X12_number (a1 a2 : Int) (V0 : pm_M) : Int × pm_M := pf_let (V0 90 1) fun y1 => pf_let (V0 90 2) fun y4 => pf_let (V0 90 3) fun y7 => pf_let (V0 90 4) fun y10 => (if ¬ (y7 = 2) then ((0, V0)) else (pf_let (V0 90 5) fun y14 => pf_let (pm_cmp y14 a1) fun y17 => (if y17 < 0 then ((0, V0)) else (pf_let (pm_cmp y14 a2) fun y20 => (if y20 ≤ 0 then (pf_let ((pm_up V0 90 37 y14)) fun V23 => pf_call (F_X12_leads  V23) fun _ V36 => pf_let (V36 90 2) fun y45 => pf_let (V36 90 3) fun y48 => pf_let (V36 90 4) fun y51 => (1, V36)) else ((0, V0)))))))
theorem F_X12_number_eq (a1 a2 : Int) (V0 : pm_M) : F_X12_number a1 a2 V0 = pf_let (V0 90 1) fun y1 => pf_let (V0 90 2) fun y4 => pf_let (V0 90 3) fun y7 => pf_let (V0 90 4) fun y10 => (if ¬ (y7 = 2) then ((0, V0)) else (pf_let (V0 90 5) fun y14 => pf_let (pm_cmp y14 a1) fun y17 => (if y17 < 0 then ((0, V0)) else (pf_let (pm_cmp y14 a2) fun y20 => (if y20 ≤ 0 then (pf_let ((pm_up V0 90 37 y14)) fun V23 => pf_call (F_X12_leads  V23) fun _ V36 => pf_let (V36 90 2) fun y45 => pf_let (V36 90 3) fun y48 => pf_let (V36 90 4) fun y51 => (1, V36)) else ((0, V0))))))) := rfl
noncomputable def F_X12_holdLine (V0 : pm_M) : Int × pm_M := pf_let (V0 90 1) fun y1 => pf_let (V0 90 2) fun y4 => pf_let (V0 90 3) fun y7 => pf_let (V0 90 4) fun y10 => pf_call (F_X12_leads  V0) fun _ V14 => pf_let (V14 90 2) fun y22 => pf_let (V14 90 3) fun y25 => pf_let (V14 90 4) fun y28 => pf_call (F_X12_named  V14) fun y36 _ => (if y36 = (-1) then ((0, V14)) else (pf_let (V14 94 (y36 : Int).toNat) fun y41 => (if y41 = 0 then (pf_call (F_X12_leads  V14) fun _ V46 => pf_let (V46 90 2) fun y55 => pf_let (V46 90 3) fun y58 => pf_let (V46 90 4) fun y61 => pf_call (F_X12_number 1 9 V46) fun y69 V67 => pf_let (V67 90 2) fun y79 => pf_let (V67 90 3) fun y82 => pf_let (V67 90 4) fun y85 => pf_let (V67 90 37) fun y88 => (if ¬ (y69 = 0) then (pf_let ((pm_up (pm_up V67 93 (((3 * y36) + 2) : Int).toNat y88) 94 (y36 : Int).toNat 1)) fun V93 => pf_call (F_X12_closes  V93) fun y109 V107 => pf_let (V107 90 2) fun y121 => pf_let (V107 90 3) fun y124 => pf_let (V107 90 4) fun y127 => (y109, V107)) else ((0, V67)))) else ((0, V14)))))
theorem F_X12_holdLine_eq (V0 : pm_M) : F_X12_holdLine V0 = pf_let (V0 90 1) fun y1 => pf_let (V0 90 2) fun y4 => pf_let (V0 90 3) fun y7 => pf_let (V0 90 4) fun y10 => pf_call (F_X12_leads  V0) fun _ V14 => pf_let (V14 90 2) fun y22 => pf_let (V14 90 3) fun y25 => pf_let (V14 90 4) fun y28 => pf_call (F_X12_named  V14) fun y36 _ => (if y36 = (-1) then ((0, V14)) else (pf_let (V14 94 (y36 : Int).toNat) fun y41 => (if y41 = 0 then (pf_call (F_X12_leads  V14) fun _ V46 => pf_let (V46 90 2) fun y55 => pf_let (V46 90 3) fun y58 => pf_let (V46 90 4) fun y61 => pf_call (F_X12_number 1 9 V46) fun y69 V67 => pf_let (V67 90 2) fun y79 => pf_let (V67 90 3) fun y82 => pf_let (V67 90 4) fun y85 => pf_let (V67 90 37) fun y88 => (if ¬ (y69 = 0) then (pf_let ((pm_up (pm_up V67 93 (((3 * y36) + 2) : Int).toNat y88) 94 (y36 : Int).toNat 1)) fun V93 => pf_call (F_X12_closes  V93) fun y109 V107 => pf_let (V107 90 2) fun y121 => pf_let (V107 90 3) fun y124 => pf_let (V107 90 4) fun y127 => (y109, V107)) else ((0, V67)))) else ((0, V14))))) := rfl
noncomputable def F_X12_oddsLine (V0 : pm_M) : Int × pm_M := pf_let (V0 90 1) fun y1 => pf_let (V0 90 2) fun y4 => pf_let (V0 90 11) fun y7 => (if y7 = (-1) then (pf_let (V0 90 3) fun y11 => pf_let (V0 90 4) fun y14 => pf_call (F_X12_leads  V0) fun _ V18 => pf_let (V18 90 2) fun y27 => pf_let (V18 90 3) fun y30 => pf_let (V18 90 4) fun y33 => pf_call (F_X12_number 0 16 V18) fun y41 V39 => pf_let (V39 90 2) fun y51 => pf_let (V39 90 3) fun y54 => pf_let (V39 90 4) fun y57 => pf_let (V39 90 37) fun y60 => (if ¬ (y41 = 0) then (pf_call (F_X12_number 1 99 V39) fun y67 V65 => pf_let (V65 90 2) fun y77 => pf_let (V65 90 3) fun y80 => pf_let (V65 90 4) fun y83 => pf_let (V65 90 37) fun y86 => (if ¬ (y67 = 0) then (pf_let ((pm_up (pm_up V65 90 11 y60) 90 12 y86)) fun V90 => pf_call (F_X12_closes  V90) fun y106 V104 => pf_let (V104 90 2) fun y118 => pf_let (V104 90 3) fun y121 => pf_let (V104 90 4) fun y124 => (y106, V104)) else ((0, V65)))) else ((0, V39)))) else (pf_let (V0 90 3) fun y127 => pf_let (V0 90 4) fun y130 => (0, V0)))
theorem F_X12_oddsLine_eq (V0 : pm_M) : F_X12_oddsLine V0 = pf_let (V0 90 1) fun y1 => pf_let (V0 90 2) fun y4 => pf_let (V0 90 11) fun y7 => (if y7 = (-1) then (pf_let (V0 90 3) fun y11 => pf_let (V0 90 4) fun y14 => pf_call (F_X12_leads  V0) fun _ V18 => pf_let (V18 90 2) fun y27 => pf_let (V18 90 3) fun y30 => pf_let (V18 90 4) fun y33 => pf_call (F_X12_number 0 16 V18) fun y41 V39 => pf_let (V39 90 2) fun y51 => pf_let (V39 90 3) fun y54 => pf_let (V39 90 4) fun y57 => pf_let (V39 90 37) fun y60 => (if ¬ (y41 = 0) then (pf_call (F_X12_number 1 99 V39) fun y67 V65 => pf_let (V65 90 2) fun y77 => pf_let (V65 90 3) fun y80 => pf_let (V65 90 4) fun y83 => pf_let (V65 90 37) fun y86 => (if ¬ (y67 = 0) then (pf_let ((pm_up (pm_up V65 90 11 y60) 90 12 y86)) fun V90 => pf_call (F_X12_closes  V90) fun y106 V104 => pf_let (V104 90 2) fun y118 => pf_let (V104 90 3) fun y121 => pf_let (V104 90 4) fun y124 => (y106, V104)) else ((0, V65)))) else ((0, V39)))) else (pf_let (V0 90 3) fun y127 => pf_let (V0 90 4) fun y130 => (0, V0))) := rfl
noncomputable def F_X12_spanLine_d2 (V0 : pm_M) : Int × pm_M := pf_let (V0 90 1) fun y1 => pf_let (V0 90 2) fun y4 => pf_let (V0 95 (2 : Int).toNat) fun y8 => (if y8 = (-1) then (pf_let (V0 90 3) fun y12 => pf_let (V0 90 4) fun y15 => pf_call (F_X12_leads  V0) fun _ V19 => pf_let (V19 90 2) fun y28 => pf_let (V19 90 3) fun y31 => pf_let (V19 90 4) fun y34 => pf_call (F_X12_number 1 60 V19) fun y42 V40 => pf_let (V40 90 2) fun y52 => pf_let (V40 90 3) fun y55 => pf_let (V40 90 4) fun y58 => pf_let (V40 90 37) fun y61 => (if ¬ (y42 = 0) then (pf_call (F_X12_number 0 9 V40) fun y68 V66 => pf_let (V66 90 2) fun y78 => pf_let (V66 90 3) fun y81 => pf_let (V66 90 4) fun y84 => pf_let (V66 90 37) fun y87 => (if ¬ (y68 = 0) then (pf_let ((pm_up (pm_up V66 95 (2 : Int).toNat y61) 95 (3 : Int).toNat y87)) fun V91 => pf_call (F_X12_closes  V91) fun y106 V104 => pf_let (V104 90 2) fun y117 => pf_let (V104 90 3) fun y120 => pf_let (V104 90 4) fun y123 => (y106, V104)) else ((0, V66)))) else ((0, V40)))) else (pf_let (V0 90 3) fun y126 => pf_let (V0 90 4) fun y129 => (0, V0)))
theorem F_X12_spanLine_d2_eq (V0 : pm_M) : F_X12_spanLine_d2 V0 = pf_let (V0 90 1) fun y1 => pf_let (V0 90 2) fun y4 => pf_let (V0 95 (2 : Int).toNat) fun y8 => (if y8 = (-1) then (pf_let (V0 90 3) fun y12 => pf_let (V0 90 4) fun y15 => pf_call (F_X12_leads  V0) fun _ V19 => pf_let (V19 90 2) fun y28 => pf_let (V19 90 3) fun y31 => pf_let (V19 90 4) fun y34 => pf_call (F_X12_number 1 60 V19) fun y42 V40 => pf_let (V40 90 2) fun y52 => pf_let (V40 90 3) fun y55 => pf_let (V40 90 4) fun y58 => pf_let (V40 90 37) fun y61 => (if ¬ (y42 = 0) then (pf_call (F_X12_number 0 9 V40) fun y68 V66 => pf_let (V66 90 2) fun y78 => pf_let (V66 90 3) fun y81 => pf_let (V66 90 4) fun y84 => pf_let (V66 90 37) fun y87 => (if ¬ (y68 = 0) then (pf_let ((pm_up (pm_up V66 95 (2 : Int).toNat y61) 95 (3 : Int).toNat y87)) fun V91 => pf_call (F_X12_closes  V91) fun y106 V104 => pf_let (V104 90 2) fun y117 => pf_let (V104 90 3) fun y120 => pf_let (V104 90 4) fun y123 => (y106, V104)) else ((0, V66)))) else ((0, V40)))) else (pf_let (V0 90 3) fun y126 => pf_let (V0 90 4) fun y129 => (0, V0))) := rfl
noncomputable def F_X12_spanLine_d0 (V0 : pm_M) : Int × pm_M := pf_let (V0 90 1) fun y1 => pf_let (V0 90 2) fun y4 => pf_let (V0 95 (0 : Int).toNat) fun y8 => (if y8 = (-1) then (pf_let (V0 90 3) fun y12 => pf_let (V0 90 4) fun y15 => pf_call (F_X12_leads  V0) fun _ V19 => pf_let (V19 90 2) fun y28 => pf_let (V19 90 3) fun y31 => pf_let (V19 90 4) fun y34 => pf_call (F_X12_number 1 60 V19) fun y42 V40 => pf_let (V40 90 2) fun y52 => pf_let (V40 90 3) fun y55 => pf_let (V40 90 4) fun y58 => pf_let (V40 90 37) fun y61 => (if ¬ (y42 = 0) then (pf_call (F_X12_number 0 9 V40) fun y68 V66 => pf_let (V66 90 2) fun y78 => pf_let (V66 90 3) fun y81 => pf_let (V66 90 4) fun y84 => pf_let (V66 90 37) fun y87 => (if ¬ (y68 = 0) then (pf_let ((pm_up (pm_up V66 95 (0 : Int).toNat y61) 95 (1 : Int).toNat y87)) fun V91 => pf_call (F_X12_closes  V91) fun y106 V104 => pf_let (V104 90 2) fun y117 => pf_let (V104 90 3) fun y120 => pf_let (V104 90 4) fun y123 => (y106, V104)) else ((0, V66)))) else ((0, V40)))) else (pf_let (V0 90 3) fun y126 => pf_let (V0 90 4) fun y129 => (0, V0)))
theorem F_X12_spanLine_d0_eq (V0 : pm_M) : F_X12_spanLine_d0 V0 = pf_let (V0 90 1) fun y1 => pf_let (V0 90 2) fun y4 => pf_let (V0 95 (0 : Int).toNat) fun y8 => (if y8 = (-1) then (pf_let (V0 90 3) fun y12 => pf_let (V0 90 4) fun y15 => pf_call (F_X12_leads  V0) fun _ V19 => pf_let (V19 90 2) fun y28 => pf_let (V19 90 3) fun y31 => pf_let (V19 90 4) fun y34 => pf_call (F_X12_number 1 60 V19) fun y42 V40 => pf_let (V40 90 2) fun y52 => pf_let (V40 90 3) fun y55 => pf_let (V40 90 4) fun y58 => pf_let (V40 90 37) fun y61 => (if ¬ (y42 = 0) then (pf_call (F_X12_number 0 9 V40) fun y68 V66 => pf_let (V66 90 2) fun y78 => pf_let (V66 90 3) fun y81 => pf_let (V66 90 4) fun y84 => pf_let (V66 90 37) fun y87 => (if ¬ (y68 = 0) then (pf_let ((pm_up (pm_up V66 95 (0 : Int).toNat y61) 95 (1 : Int).toNat y87)) fun V91 => pf_call (F_X12_closes  V91) fun y106 V104 => pf_let (V104 90 2) fun y117 => pf_let (V104 90 3) fun y120 => pf_let (V104 90 4) fun y123 => (y106, V104)) else ((0, V66)))) else ((0, V40)))) else (pf_let (V0 90 3) fun y126 => pf_let (V0 90 4) fun y129 => (0, V0))) := rfl
noncomputable def F_X12_soundLine (V0 : pm_M) : Int × pm_M := pf_let (V0 90 1) fun y1 => pf_let (V0 90 2) fun y4 => pf_let (V0 90 6) fun y7 => (if ¬ (y7 = 9) then (pf_let (V0 90 3) fun y11 => pf_let (V0 90 4) fun y14 => pf_call (F_X12_leads  V0) fun _ V18 => pf_let (V18 90 2) fun y27 => pf_let (V18 90 3) fun y30 => pf_let (V18 90 4) fun y33 => pf_call (F_X12_isName  V18) fun y41 _ => (if y41 = 0 then ((0, V18)) else (pf_call (F_X12_named  V18) fun y48 _ => (if y48 = (-1) then (pf_let (V18 90 5) fun y52 => pf_call (F_X12_leads  V18) fun _ V56 => pf_let (V56 90 2) fun y65 => pf_let (V56 90 3) fun y68 => pf_let (V56 90 4) fun y71 => pf_call (F_X12_number 0 99 V56) fun y79 V77 => pf_let (V77 90 2) fun y89 => pf_let (V77 90 3) fun y92 => pf_let (V77 90 4) fun y95 => pf_let (V77 90 37) fun y98 => (if ¬ (y79 = 0) then (pf_val ((0 : Int), V0) (fun (q : Int) => match q with | x102 => ((if y7 ≤ x102 then (pf_call (F_X12_number 0 99 V77) fun y115 V113 => pf_let (V113 90 2) fun y125 => pf_let (V113 90 3) fun y128 => pf_let (V113 90 4) fun y131 => pf_let (V113 90 37) fun y134 => (if ¬ (y115 = 0) then (pf_let ((pm_up (pm_up (pm_up (pm_up (pm_up (pm_up V113 92 (y7 : Int).toNat y52) 93 ((3 * y7) : Int).toNat y98) 93 (((3 * y7) + 1) : Int).toNat y134) 93 (((3 * y7) + 2) : Int).toNat 1) 94 (y7 : Int).toNat 0) 90 6 (y7 + 1))) fun V141 => pf_call (F_X12_closes  V141) fun y159 V157 => pf_let (V157 90 2) fun y173 => pf_let (V157 90 3) fun y176 => pf_let (V157 90 4) fun y179 => (.inr (y159, V157))) else ((.inr (0, V113))))) else ((if ¬ (y92 = 2) then (pf_let (x102 + 1) fun x183 => (.inl x183)) else (pf_let (V77 93 ((3 * x102) : Int).toNat) fun y186 => (if ¬ (y186 = y98) then (pf_let (x102 + 1) fun x190 => (.inl x190)) else (pf_let (V77 93 (((3 * x102) + 1) : Int).toNat) fun y192 => pf_let (V77 90 5) fun y195 => pf_let (pm_cmp y192 y195) fun y198 => (if ¬ (y198 = 0) then (pf_let (x102 + 1) fun x201 => (.inl x201)) else ((.inr (0, V77)))))))))))) 0) else ((0, V77)))) else ((0, V18)))))) else (pf_let (V0 90 3) fun y203 => pf_let (V0 90 4) fun y206 => (0, V0)))
theorem F_X12_soundLine_eq (V0 : pm_M) : F_X12_soundLine V0 = pf_let (V0 90 1) fun y1 => pf_let (V0 90 2) fun y4 => pf_let (V0 90 6) fun y7 => (if ¬ (y7 = 9) then (pf_let (V0 90 3) fun y11 => pf_let (V0 90 4) fun y14 => pf_call (F_X12_leads  V0) fun _ V18 => pf_let (V18 90 2) fun y27 => pf_let (V18 90 3) fun y30 => pf_let (V18 90 4) fun y33 => pf_call (F_X12_isName  V18) fun y41 _ => (if y41 = 0 then ((0, V18)) else (pf_call (F_X12_named  V18) fun y48 _ => (if y48 = (-1) then (pf_let (V18 90 5) fun y52 => pf_call (F_X12_leads  V18) fun _ V56 => pf_let (V56 90 2) fun y65 => pf_let (V56 90 3) fun y68 => pf_let (V56 90 4) fun y71 => pf_call (F_X12_number 0 99 V56) fun y79 V77 => pf_let (V77 90 2) fun y89 => pf_let (V77 90 3) fun y92 => pf_let (V77 90 4) fun y95 => pf_let (V77 90 37) fun y98 => (if ¬ (y79 = 0) then (pf_val ((0 : Int), V0) (fun (q : Int) => match q with | x102 => ((if y7 ≤ x102 then (pf_call (F_X12_number 0 99 V77) fun y115 V113 => pf_let (V113 90 2) fun y125 => pf_let (V113 90 3) fun y128 => pf_let (V113 90 4) fun y131 => pf_let (V113 90 37) fun y134 => (if ¬ (y115 = 0) then (pf_let ((pm_up (pm_up (pm_up (pm_up (pm_up (pm_up V113 92 (y7 : Int).toNat y52) 93 ((3 * y7) : Int).toNat y98) 93 (((3 * y7) + 1) : Int).toNat y134) 93 (((3 * y7) + 2) : Int).toNat 1) 94 (y7 : Int).toNat 0) 90 6 (y7 + 1))) fun V141 => pf_call (F_X12_closes  V141) fun y159 V157 => pf_let (V157 90 2) fun y173 => pf_let (V157 90 3) fun y176 => pf_let (V157 90 4) fun y179 => (.inr (y159, V157))) else ((.inr (0, V113))))) else ((if ¬ (y92 = 2) then (pf_let (x102 + 1) fun x183 => (.inl x183)) else (pf_let (V77 93 ((3 * x102) : Int).toNat) fun y186 => (if ¬ (y186 = y98) then (pf_let (x102 + 1) fun x190 => (.inl x190)) else (pf_let (V77 93 (((3 * x102) + 1) : Int).toNat) fun y192 => pf_let (V77 90 5) fun y195 => pf_let (pm_cmp y192 y195) fun y198 => (if ¬ (y198 = 0) then (pf_let (x102 + 1) fun x201 => (.inl x201)) else ((.inr (0, V77)))))))))))) 0) else ((0, V77)))) else ((0, V18)))))) else (pf_let (V0 90 3) fun y203 => pf_let (V0 90 4) fun y206 => (0, V0))) := rfl
noncomputable def F_X12_sceneLine (V0 : pm_M) : Int × pm_M := pf_let (V0 90 1) fun y1 => pf_let (V0 90 2) fun y4 => pf_let (V0 90 3) fun y7 => pf_call (F_X12_isWord 0 V0) fun y13 _ => (if y13 = 0 then (pf_call (F_X12_isWord 1 V0) fun y20 _ => (if y20 = 0 then (pf_call (F_X12_isWord 2 V0) fun y27 _ => (if y27 = 0 then (pf_call (F_X12_isWord 3 V0) fun y34 _ => (if y34 = 0 then (pf_call (F_X12_isWord 4 V0) fun y41 _ => (if y41 = 0 then (pf_call (F_X12_isWord 5 V0) fun y48 _ => (if y48 = 0 then (pf_let (V0 90 4) fun y52 => (0, V0)) else (pf_let (V0 90 4) fun y55 => pf_call (F_X12_learnLine  V0) fun y61 V59 => pf_let (V59 90 2) fun y70 => pf_let (V59 90 3) fun y73 => pf_let (V59 90 4) fun y76 => (if y61 = 0 then ((0, V59)) else ((1, V59)))))) else (pf_let (V0 90 4) fun y80 => pf_call (F_X12_holdLine  V0) fun y86 V84 => pf_let (V84 90 2) fun y95 => pf_let (V84 90 3) fun y98 => pf_let (V84 90 4) fun y101 => (y86, V84)))) else (pf_let (V0 90 4) fun y104 => pf_call (F_X12_oddsLine  V0) fun y110 V108 => pf_let (V108 90 2) fun y119 => pf_let (V108 90 3) fun y122 => pf_let (V108 90 4) fun y125 => (y110, V108)))) else (pf_let (V0 90 4) fun y128 => pf_call (F_X12_spanLine_d2  V0) fun y134 V132 => pf_let (V132 90 2) fun y143 => pf_let (V132 90 3) fun y146 => pf_let (V132 90 4) fun y149 => (y134, V132)))) else (pf_let (V0 90 4) fun y152 => pf_call (F_X12_spanLine_d0  V0) fun y158 V156 => pf_let (V156 90 2) fun y167 => pf_let (V156 90 3) fun y170 => pf_let (V156 90 4) fun y173 => (y158, V156)))) else (pf_let (V0 90 4) fun y176 => pf_call (F_X12_soundLine  V0) fun y182 V180 => pf_let (V180 90 2) fun y191 => pf_let (V180 90 3) fun y194 => pf_let (V180 90 4) fun y197 => (y182, V180)))
theorem F_X12_sceneLine_eq (V0 : pm_M) : F_X12_sceneLine V0 = pf_let (V0 90 1) fun y1 => pf_let (V0 90 2) fun y4 => pf_let (V0 90 3) fun y7 => pf_call (F_X12_isWord 0 V0) fun y13 _ => (if y13 = 0 then (pf_call (F_X12_isWord 1 V0) fun y20 _ => (if y20 = 0 then (pf_call (F_X12_isWord 2 V0) fun y27 _ => (if y27 = 0 then (pf_call (F_X12_isWord 3 V0) fun y34 _ => (if y34 = 0 then (pf_call (F_X12_isWord 4 V0) fun y41 _ => (if y41 = 0 then (pf_call (F_X12_isWord 5 V0) fun y48 _ => (if y48 = 0 then (pf_let (V0 90 4) fun y52 => (0, V0)) else (pf_let (V0 90 4) fun y55 => pf_call (F_X12_learnLine  V0) fun y61 V59 => pf_let (V59 90 2) fun y70 => pf_let (V59 90 3) fun y73 => pf_let (V59 90 4) fun y76 => (if y61 = 0 then ((0, V59)) else ((1, V59)))))) else (pf_let (V0 90 4) fun y80 => pf_call (F_X12_holdLine  V0) fun y86 V84 => pf_let (V84 90 2) fun y95 => pf_let (V84 90 3) fun y98 => pf_let (V84 90 4) fun y101 => (y86, V84)))) else (pf_let (V0 90 4) fun y104 => pf_call (F_X12_oddsLine  V0) fun y110 V108 => pf_let (V108 90 2) fun y119 => pf_let (V108 90 3) fun y122 => pf_let (V108 90 4) fun y125 => (y110, V108)))) else (pf_let (V0 90 4) fun y128 => pf_call (F_X12_spanLine_d2  V0) fun y134 V132 => pf_let (V132 90 2) fun y143 => pf_let (V132 90 3) fun y146 => pf_let (V132 90 4) fun y149 => (y134, V132)))) else (pf_let (V0 90 4) fun y152 => pf_call (F_X12_spanLine_d0  V0) fun y158 V156 => pf_let (V156 90 2) fun y167 => pf_let (V156 90 3) fun y170 => pf_let (V156 90 4) fun y173 => (y158, V156)))) else (pf_let (V0 90 4) fun y176 => pf_call (F_X12_soundLine  V0) fun y182 V180 => pf_let (V180 90 2) fun y191 => pf_let (V180 90 3) fun y194 => pf_let (V180 90 4) fun y197 => (y182, V180))) := rfl
noncomputable def F_X12_sceneFault (V0 : pm_M) : Int × pm_M := pf_let ((pm_up (pm_up (pm_up (pm_up (pm_up (pm_up V0 90 6 0) 90 13 0) 95 (0 : Int).toNat (-1)) 95 (2 : Int).toNat (-1)) 90 11 (-1)) 90 2 0)) fun V2 => pf_let (V2 90 1) fun y11 => pf_let (V2 90 3) fun y15 => pf_let (V2 90 4) fun y18 => pf_call (F_X12_leads  V2) fun _ V22 => pf_let (V22 90 2) fun y34 => pf_let (V22 90 3) fun y37 => pf_let (V22 90 4) fun y40 => pf_val ((0 : Int), V0) (fun (q : pm_M) => match q with | V45 => (pf_let (V45 90 3) fun y59 => (if y59 = 0 then (pf_let (V45 90 6) fun y63 => (if y63 < 2 then (pf_let (V45 90 4) fun y67 => (.inr (y67, V45))) else (pf_let (V45 95 (0 : Int).toNat) fun y70 => (if y70 = (-1) then (pf_let (V45 90 4) fun y74 => (.inr (y74, V45))) else (pf_let (V45 95 (2 : Int).toNat) fun y77 => (if ¬ (y77 = (-1)) then ((.inr ((-1), V45))) else (pf_let (V45 90 4) fun y81 => (.inr (y81, V45))))))))) else (pf_let (V45 90 2) fun y84 => pf_let (V45 90 4) fun y87 => pf_call (F_X12_sceneLine  V45) fun y93 V91 => pf_let (V91 90 2) fun y103 => pf_let (V91 90 3) fun y106 => pf_let (V91 90 4) fun y109 => (if ¬ (y93 = 0) then ((.inl V91)) else ((.inr (y109, V91)))))))) V22
theorem F_X12_sceneFault_eq (V0 : pm_M) : F_X12_sceneFault V0 = pf_let ((pm_up (pm_up (pm_up (pm_up (pm_up (pm_up V0 90 6 0) 90 13 0) 95 (0 : Int).toNat (-1)) 95 (2 : Int).toNat (-1)) 90 11 (-1)) 90 2 0)) fun V2 => pf_let (V2 90 1) fun y11 => pf_let (V2 90 3) fun y15 => pf_let (V2 90 4) fun y18 => pf_call (F_X12_leads  V2) fun _ V22 => pf_let (V22 90 2) fun y34 => pf_let (V22 90 3) fun y37 => pf_let (V22 90 4) fun y40 => pf_val ((0 : Int), V0) (fun (q : pm_M) => match q with | V45 => (pf_let (V45 90 3) fun y59 => (if y59 = 0 then (pf_let (V45 90 6) fun y63 => (if y63 < 2 then (pf_let (V45 90 4) fun y67 => (.inr (y67, V45))) else (pf_let (V45 95 (0 : Int).toNat) fun y70 => (if y70 = (-1) then (pf_let (V45 90 4) fun y74 => (.inr (y74, V45))) else (pf_let (V45 95 (2 : Int).toNat) fun y77 => (if ¬ (y77 = (-1)) then ((.inr ((-1), V45))) else (pf_let (V45 90 4) fun y81 => (.inr (y81, V45))))))))) else (pf_let (V45 90 2) fun y84 => pf_let (V45 90 4) fun y87 => pf_call (F_X12_sceneLine  V45) fun y93 V91 => pf_let (V91 90 2) fun y103 => pf_let (V91 90 3) fun y106 => pf_let (V91 90 4) fun y109 => (if ¬ (y93 = 0) then ((.inl V91)) else ((.inr (y109, V91)))))))) V22 := rfl
set_option maxHeartbeats 4000000 in
set_option maxRecDepth 100000 in
theorem fP_X12_named  : pm_K 7 yX12_named cX12_named 2 (some .int) (fun av V => av = [(3, 90)] ∧ pm_oq pm_qP V) (fun _ V r V' => ∃ y, r = some (0, y) ∧ ((-1) ≤ y ∧ y ≤ 8) ∧ V = V' ∧ F_X12_named  V = (y, V)) := by
  refine pm_MT.of (by decide) ⟨Nat.le_refl _, by decide⟩ (fun av V h => by rw [h.1]; exact (by decide : pm_words [(3, 0)] ≤ 2)) ?_
  rintro X av V0 hC - hR ⟨rfl, hV0⟩
  change pm_J X 0 [(0, (3, 90))] [] 118 V0
  have hT := F_X12_named_eq  V0
  refine pm_iconst (v := 0) hC dX12_named_0 ?_
  refine pm_istore_n (lv' := [(1, (0, 0)), (0, (3, 90))]) hC dX12_named_1 (by decide) rfl ?_
  obtain ⟨B3, hB4, hT⟩ := pf_loop hT
  have L6 : ∀ (N8 : Nat) (x1 : Int), (0 ≤ x1 ∧ x1 ≤ 9) → F_X12_named  V0 = pf_val ((0 : Int), V0) B3 x1 → (Int.toNat (9 - x1)) = N8 → pm_J X 2 [(0, (3, 90)), (1, (0, x1))] [] 118 V0 := by
    intro N8
    induction N8 using Nat.strongRecOn with
    | _ N8 ih9 =>
    intro x1 b2 hT hm7
    have hb5 := congrFun hB4 x1
    refine pm_iload_n hC 1 dX12_named_2 rfl ?_
    refine pm_aload_n hC 0 (by decide) dX12_named_3 rfl ?_
    obtain ⟨y10, e11⟩ : ∃ y, V0 90 6 = y := ⟨_, rfl⟩
    have b12 := hV0.get 90 6 (lo := 0) (hi := 9) (by decide) (by decide) rfl
    rw [e11] at b12
    replace hb5 := hb5.trans (pf_let_eq e11)
    refine pm_getf (v := y10) hC 90 fl_X12_169 rfl rfl (by decide) rfl e11 dX12_named_4 ?_
    refine pm_icmp_ge (tgt := 39) hC ⟨by omega, by omega⟩ ⟨by omega, by omega⟩ dX12_named_7 (by decide) (fun c13 => ?_) (fun c13 => ?_)
    · skip
      replace hb5 := hb5.trans (if_pos c13)
      refine pm_iconst (v := (-1)) hC dX12_named_39 ?_
      have hT := hT.trans (pf_val_inr hb5)
      exact pm_iret hC hR pm_nar0 ⟨(-1), rfl, ⟨by omega, by omega⟩, rfl, hT⟩ dX12_named_40
    · skip
      replace hb5 := hb5.trans (if_neg (Int.not_le.mpr c13))
      refine pm_aload_n hC 0 (by decide) dX12_named_10 rfl ?_
      refine pm_callV (ci := 12) (as := []) (st := []) hC 90 fP_X12_isName lm_X12_172 li_X12_isName (by decide) (by decide) rfl rfl rfl (by decide) rfl rfl (Nat.le_of_ble_eq_true rfl) ⟨Nat.le_refl _, Or.inl rfl⟩ dX12_named_11 ⟨rfl, hV0⟩ (fun r14 V15 hp16 => ?_)
      obtain ⟨y17, rfl, b18, rfl, hE19⟩ := hp16
      replace hb5 := hb5.trans (pf_call_eq hE19)
      change pm_J X 14 [(0, (3, 90)), (1, (0, x1))] [(0, y17)] 118 V0
      refine pm_if_eq (tgt := 39) hC ⟨by omega, by omega⟩ dX12_named_14 (by decide) (fun c20 => ?_) (fun c20 => ?_)
      · skip
        replace hb5 := hb5.trans (if_pos c20)
        refine pm_iconst (v := (-1)) hC dX12_named_39 ?_
        have hT := hT.trans (pf_val_inr hb5)
        exact pm_iret hC hR pm_nar0 ⟨(-1), rfl, ⟨by omega, by omega⟩, rfl, hT⟩ dX12_named_40
      · skip
        replace hb5 := hb5.trans (if_neg c20)
        refine pm_aload_n hC 0 (by decide) dX12_named_17 rfl ?_
        have e21 : V0 90 7 = 92 := hV0.one 90 7 (by decide) (by decide) rfl
        refine pm_getf (v := 92) hC 90 fl_X12_13 rfl rfl (by decide) rfl e21 dX12_named_18 ?_
        refine pm_iload_n hC 1 dX12_named_21 rfl ?_
        obtain ⟨y22, e23⟩ : ∃ y, V0 92 (x1 : Int).toNat = y := ⟨_, rfl⟩
        replace hb5 := hb5.trans (pf_let_eq e23)
        have b24 := hV0.get 92 (x1 : Int).toNat (lo := (-9223372036854775808)) (hi := 9223372036854775807) (t := 0) (by decide) (show _ < 9 by omega) rfl
        rw [e23] at b24
        refine pm_laload (len := 9) (v := y22) hC 92 rfl rfl (by decide) ⟨by omega, by omega⟩ (by decide) e23 dX12_named_22 ?_
        refine pm_aload_n hC 0 (by decide) dX12_named_23 rfl ?_
        obtain ⟨y25, e26⟩ : ∃ y, V0 90 5 = y := ⟨_, rfl⟩
        have b27 := hV0.get 90 5 (lo := (-9223372036854775808)) (hi := 9223372036854775807) (by decide) (by decide) rfl
        rw [e26] at b27
        replace hb5 := hb5.trans (pf_let_eq e26)
        refine pm_getf (v := y25) hC 90 fl_X12_108 rfl rfl (by decide) rfl e26 dX12_named_24 ?_
        refine pm_lcmp hC ⟨by omega, by omega⟩ ⟨by omega, by omega⟩ dX12_named_27 (fun y28 b29 => ?_)
        replace hb5 := hb5.trans (pf_let_eq (pm_cmp_u b29))
        refine pm_if_ne (tgt := 33) hC ⟨by omega, by omega⟩ dX12_named_28 (by decide) (fun c30 => ?_) (fun c30 => ?_)
        · skip
          replace hb5 := hb5.trans (if_pos c30)
          obtain ⟨x31, ei32⟩ : ∃ y : Int, x1 + 1 = y := ⟨_, rfl⟩
          replace hb5 := hb5.trans (pf_let_eq ei32)
          refine pm_iinc (y := x31) (lv' := [(1, (0, x31)), (0, (3, 90))]) hC 1 dX12_named_33 (by decide) rfl ei32 rfl ?_
          refine pm_goto (tgt := 2) hC dX12_named_36 (by decide) ?_
          refine pm_lvsub [1, 0] (lv' := [(0, (3, 90)), (1, (0, x31))]) rfl ?_
          exact ih9 _ (by omega) x31 ⟨by omega, by omega⟩ (hT.trans (pf_val_inl hb5)) rfl
        · skip
          replace hb5 := hb5.trans (if_neg (fun q => q c30))
          refine pm_iload_n hC 1 dX12_named_31 rfl ?_
          have hT := hT.trans (pf_val_inr hb5)
          exact pm_iret hC hR pm_nar0 ⟨x1, rfl, ⟨by omega, by omega⟩, rfl, hT⟩ dX12_named_32
  refine pm_lvsub [1, 0] (lv' := [(0, (3, 90)), (1, (0, 0))]) rfl ?_
  exact L6 _ 0 ⟨by decide, by decide⟩ hT rfl
set_option maxHeartbeats 4000000 in
set_option maxRecDepth 100000 in
theorem fP_X12_closes  : pm_K 3 yX12_closes cX12_closes 1 (some .boolean) (fun av V => av = [(3, 90)] ∧ pm_oq pm_qP V ∧ pm_az V ∧ pm_tk V) (fun _ V r V' => ∃ y, r = some (0, y) ∧ (0 ≤ y ∧ y ≤ 1 ∧ (y = 1 → V' 90 3 ≤ 5 * (V' 90 2 - V 90 2)) ∧ (V 90 2 ≤ V' 90 2) ∧ (V 90 4 ≤ V' 90 4)) ∧ pm_oq pm_qP V' ∧ pm_fs [] [2, 3, 4, 5] V V' ∧ pm_az V' ∧ pm_tk V' ∧ F_X12_closes  V = (y, V')) := by
  refine pm_MT.of (by decide) ⟨Nat.le_refl _, by decide⟩ (fun av V h => by rw [h.1]; exact (by decide : pm_words [(3, 0)] ≤ 1)) ?_
  rintro X av V0 hC - hR ⟨rfl, hV0, hn_pm_az, hn_pm_tk⟩
  change pm_J X 0 [(0, (3, 90))] [] 118 V0
  have hT := F_X12_closes_eq  V0
  obtain ⟨y1, e2⟩ : ∃ y, V0 90 1 = y := ⟨_, rfl⟩
  have b3 := hV0.get 90 1 (lo := 0) (hi := 500) (by decide) (by decide) rfl
  rw [e2] at b3
  replace hT := hT.trans (pf_let_eq e2)
  obtain ⟨y4, e5⟩ : ∃ y, V0 90 2 = y := ⟨_, rfl⟩
  have b6 := hV0.get 90 2 (lo := 0) (hi := 500) (by decide) (by decide) rfl
  rw [e5] at b6
  replace hT := hT.trans (pf_let_eq e5)
  obtain ⟨y7, e8⟩ : ∃ y, V0 90 3 = y := ⟨_, rfl⟩
  have b9 := hV0.get 90 3 (lo := 0) (hi := 4) (by decide) (by decide) rfl
  rw [e8] at b9
  replace hT := hT.trans (pf_let_eq e8)
  obtain ⟨y10, e11⟩ : ∃ y, V0 90 4 = y := ⟨_, rfl⟩
  have b12 := hV0.get 90 4 (lo := 0) (hi := 500) (by decide) (by decide) rfl
  rw [e11] at b12
  replace hT := hT.trans (pf_let_eq e11)
  have hsz := hn_pm_az
  unfold pm_az at hsz
  rw [e5, e2] at hsz
  have htk := hn_pm_tk
  unfold pm_tk at htk
  refine pm_aload_n hC 0 (by decide) dX12_closes_0 rfl ?_
  refine pm_bipush (v := 59) hC dX12_closes_1 (by decide) ?_
  refine pm_callV (ci := 12) (as := [(0, 59)]) (st := []) hC 90 (fP_X12_isSign 59 ⟨by decide, by decide⟩) lm_X12_145 li_X12_isSign (by decide) (by decide) rfl rfl rfl (by decide) rfl rfl (Nat.le_of_ble_eq_true rfl) ⟨Nat.le_refl _, Or.inl rfl⟩ dX12_closes_3 ⟨rfl, hV0⟩ (fun r13 V14 hp15 => ?_)
  obtain ⟨y16, rfl, b17, rfl, hE18⟩ := hp15
  replace hT := hT.trans (pf_call_eq hE18)
  change pm_J X 6 [(0, (3, 90))] [(0, y16)] 118 V0
  refine pm_if_ne (tgt := 11) hC ⟨by omega, by omega⟩ dX12_closes_6 (by decide) (fun c19 => ?_) (fun c19 => ?_)
  · skip
    replace hT := hT.trans (if_pos c19)
    refine pm_aload_n hC 0 (by decide) dX12_closes_11 rfl ?_
    refine pm_callV (ci := 12) (as := []) (st := []) hC 90 fP_X12_leads lm_X12_148 li_X12_leads (by decide) (by decide) rfl rfl rfl (by decide) rfl rfl (Nat.le_of_ble_eq_true rfl) ⟨Nat.le_refl _, Or.inl rfl⟩ dX12_closes_12 ⟨rfl, hV0, hn_pm_az⟩ (fun r20 V21 hp22 => ?_)
    obtain ⟨rfl, hV23, hF24, hg25, hE26⟩ := hp22
    replace hT := hT.trans (pf_call_eq hE26)
    change pm_J X 15 [(0, (3, 90))] [] 118 V21
    have hF27 := pm_fs.tr (pm_fs.rf (cs := []) (fs := [2, 3, 4, 5]) (V := V0)) hF24 (by decide) (by decide)
    have e28 : V21 90 1 = y1 := by rw [hF24.2 1 (by decide)]; exact e2
    obtain ⟨y29, e30⟩ : ∃ y, V21 90 2 = y := ⟨_, rfl⟩
    have b31 := hV23.get 90 2 (lo := 0) (hi := 500) (by decide) (by decide) rfl
    rw [e30] at b31
    replace hT := hT.trans (pf_let_eq e30)
    obtain ⟨y32, e33⟩ : ∃ y, V21 90 3 = y := ⟨_, rfl⟩
    have b34 := hV23.get 90 3 (lo := 0) (hi := 4) (by decide) (by decide) rfl
    rw [e33] at b34
    replace hT := hT.trans (pf_let_eq e33)
    obtain ⟨y35, e36⟩ : ∃ y, V21 90 4 = y := ⟨_, rfl⟩
    have b37 := hV23.get 90 4 (lo := 0) (hi := 500) (by decide) (by decide) rfl
    rw [e36] at b37
    replace hT := hT.trans (pf_let_eq e36)
    have hpr38 := r_leads_pr hV0 hn_pm_az hE26
    have htk39 : pm_tk V21 := hpr38.2.2.2.1
    refine pm_iconst (v := 1) hC dX12_closes_15 ?_
    exact pm_iret hC hR (pm_narZ (by omega)) ⟨1, rfl, ⟨by omega, by omega, by omega, by omega, by omega⟩, hV23, hF27, hg25, htk39, hT⟩ dX12_closes_16
  · skip
    replace hT := hT.trans (if_neg (fun q => q c19))
    refine pm_iconst (v := 0) hC dX12_closes_9 ?_
    exact pm_iret hC hR (pm_narZ (by omega)) ⟨0, rfl, ⟨by omega, by omega, by omega, by omega, by omega⟩, hV0, (pm_fs.rf (cs := []) (fs := [2, 3, 4, 5]) (V := V0)), hn_pm_az, hn_pm_tk, hT⟩ dX12_closes_10
set_option maxHeartbeats 4000000 in
set_option maxRecDepth 100000 in
theorem fP_X12_learnLine  : pm_K 8 yX12_learnLine cX12_learnLine 4 (some .boolean) (fun av V => av = [(3, 90)] ∧ pm_oq pm_qP V ∧ pm_az V ∧ pm_tk V) (fun _ V r V' => ∃ y, r = some (0, y) ∧ (0 ≤ y ∧ y ≤ 1 ∧ (y = 1 → V' 90 3 ≤ 5 * (V' 90 2 - V 90 2)) ∧ (V 90 2 ≤ V' 90 2)) ∧ pm_oq pm_qP V' ∧ pm_fs [96] [2, 3, 4, 5, 13] V V' ∧ pm_az V' ∧ pm_tk V' ∧ F_X12_learnLine  V = (y, V')) := by
  refine pm_MT.of (by decide) ⟨Nat.le_refl _, by decide⟩ (fun av V h => by rw [h.1]; exact (by decide : pm_words [(3, 0)] ≤ 4)) ?_
  rintro X av V0 hC - hR ⟨rfl, hV0, hn_pm_az, hn_pm_tk⟩
  change pm_J X 0 [(0, (3, 90))] [] 118 V0
  have hT := F_X12_learnLine_eq  V0
  obtain ⟨y1, e2⟩ : ∃ y, V0 90 1 = y := ⟨_, rfl⟩
  have b3 := hV0.get 90 1 (lo := 0) (hi := 500) (by decide) (by decide) rfl
  rw [e2] at b3
  replace hT := hT.trans (pf_let_eq e2)
  obtain ⟨y4, e5⟩ : ∃ y, V0 90 2 = y := ⟨_, rfl⟩
  have b6 := hV0.get 90 2 (lo := 0) (hi := 500) (by decide) (by decide) rfl
  rw [e5] at b6
  replace hT := hT.trans (pf_let_eq e5)
  have hsz := hn_pm_az
  unfold pm_az at hsz
  rw [e5, e2] at hsz
  refine pm_aload_n hC 0 (by decide) dX12_learnLine_0 rfl ?_
  obtain ⟨y7, e8⟩ : ∃ y, V0 90 13 = y := ⟨_, rfl⟩
  have b9 := hV0.get 90 13 (lo := 0) (hi := 12) (by decide) (by decide) rfl
  rw [e8] at b9
  replace hT := hT.trans (pf_let_eq e8)
  refine pm_getf (v := y7) hC 90 fl_X12_192 rfl rfl (by decide) rfl e8 dX12_learnLine_1 ?_
  refine pm_bipush (v := 12) hC dX12_learnLine_4 (by decide) ?_
  refine pm_icmp_ne (tgt := 11) hC ⟨by omega, by omega⟩ ⟨by decide, by decide⟩ dX12_learnLine_6 (by decide) (fun c10 => ?_) (fun c10 => ?_)
  · skip
    replace hT := hT.trans (if_pos c10)
    refine pm_iconst (v := 3) hC dX12_learnLine_11 ?_
    refine pm_aload_n hC 0 (by decide) dX12_learnLine_12 rfl ?_
    refine pm_getf (v := y7) hC 90 fl_X12_192 rfl rfl (by decide) rfl e8 dX12_learnLine_13 ?_
    refine pm_imul hC dX12_learnLine_16 ?_
    refine pm_istore_n (lv' := [(1, (0, (3 * y7))), (0, (3, 90))]) hC dX12_learnLine_17 (by decide) rfl ?_
    refine pm_iconst (v := 0) hC dX12_learnLine_18 ?_
    refine pm_istore_n (lv' := [(2, (0, 0)), (1, (0, (3 * y7))), (0, (3, 90))]) hC dX12_learnLine_19 (by decide) rfl ?_
    obtain ⟨B21, hB22, hT⟩ := pf_loop hT
    have L24 : ∀ (N26 : Nat) (x11 : Int) (V13 : pm_M), (0 ≤ x11 ∧ x11 ≤ 3) → pm_oq pm_qP V13 → pm_fs [96] [2, 3, 4, 5, 13] V0 V13 → V13 90 1 = y1 → V13 90 13 = y7 → pm_az V13 → pm_tk V13 → (V0 90 2 ≤ V13 90 2) → F_X12_learnLine  V0 = pf_val ((0 : Int), V0) B21 (x11, V13) → (Int.toNat (3 - x11)) = N26 → pm_J X 20 [(0, (3, 90)), (1, (0, (3 * y7))), (2, (0, x11))] [] 118 V13 := by
      intro N26
      induction N26 using Nat.strongRecOn with
      | _ N26 ih27 =>
      intro x11 V13 b12 hV14 hF15 e16 e17 hp18 hp19 hm20 hT hm25
      have hb23 := congrFun hB22 (x11, V13)
      refine pm_iload_n hC 2 dX12_learnLine_20 rfl ?_
      refine pm_iconst (v := 3) hC dX12_learnLine_21 ?_
      refine pm_icmp_ge (tgt := 122) hC ⟨by omega, by omega⟩ ⟨by decide, by decide⟩ dX12_learnLine_22 (by decide) (fun c28 => ?_) (fun c28 => ?_)
      · skip
        replace hb23 := hb23.trans (if_pos c28)
        refine pm_aload_n hC 0 (by decide) dX12_learnLine_122 rfl ?_
        obtain ⟨y29, e30⟩ : ∃ y, V13 90 2 = y := ⟨_, rfl⟩
        have b31 := hV14.get 90 2 (lo := 0) (hi := 500) (by decide) (by decide) rfl
        rw [e30] at b31
        replace hb23 := hb23.trans (pf_let_eq e30)
        obtain ⟨y32, e33⟩ : ∃ y, V13 90 3 = y := ⟨_, rfl⟩
        have b34 := hV14.get 90 3 (lo := 0) (hi := 4) (by decide) (by decide) rfl
        rw [e33] at b34
        replace hb23 := hb23.trans (pf_let_eq e33)
        obtain ⟨y35, e36⟩ : ∃ y, V13 90 4 = y := ⟨_, rfl⟩
        have b37 := hV14.get 90 4 (lo := 0) (hi := 500) (by decide) (by decide) rfl
        rw [e36] at b37
        replace hb23 := hb23.trans (pf_let_eq e36)
        refine pm_callV (ci := 12) (as := []) (st := []) hC 90 fP_X12_leads lm_X12_148 li_X12_leads (by decide) (by decide) rfl rfl rfl (by decide) rfl rfl (Nat.le_of_ble_eq_true rfl) ⟨Nat.le_refl _, Or.inl rfl⟩ dX12_learnLine_123 ⟨rfl, hV14, hp18⟩ (fun r38 V39 hp40 => ?_)
        obtain ⟨rfl, hV41, hF42, hg43, hE44⟩ := hp40
        replace hb23 := hb23.trans (pf_call_eq hE44)
        change pm_J X 126 [(0, (3, 90)), (1, (0, (3 * y7))), (2, (0, x11))] [] 118 V39
        have hF45 := pm_fs.tr hF15 hF42 (by decide) (by decide)
        have e46 : V39 90 1 = y1 := by rw [hF42.2 1 (by decide)]; exact e16
        have e47 : V39 90 13 = y7 := by rw [hF42.2 13 (by decide)]; exact e17
        obtain ⟨y48, e49⟩ : ∃ y, V39 90 2 = y := ⟨_, rfl⟩
        have b50 := hV41.get 90 2 (lo := 0) (hi := 500) (by decide) (by decide) rfl
        rw [e49] at b50
        replace hb23 := hb23.trans (pf_let_eq e49)
        obtain ⟨y51, e52⟩ : ∃ y, V39 90 3 = y := ⟨_, rfl⟩
        have b53 := hV41.get 90 3 (lo := 0) (hi := 4) (by decide) (by decide) rfl
        rw [e52] at b53
        replace hb23 := hb23.trans (pf_let_eq e52)
        obtain ⟨y54, e55⟩ : ∃ y, V39 90 4 = y := ⟨_, rfl⟩
        have b56 := hV41.get 90 4 (lo := 0) (hi := 500) (by decide) (by decide) rfl
        rw [e55] at b56
        replace hb23 := hb23.trans (pf_let_eq e55)
        have hpr57 := r_leads_pr hV14 hp18 hE44
        have htk58 : pm_tk V39 := hpr57.2.2.2.1
        refine pm_aload_n hC 0 (by decide) dX12_learnLine_126 rfl ?_
        refine pm_dup hC rfl dX12_learnLine_127 ?_
        refine pm_getf (v := y7) hC 90 fl_X12_192 rfl rfl (by decide) rfl e47 dX12_learnLine_128 ?_
        refine pm_iconst (v := 1) hC dX12_learnLine_131 ?_
        refine pm_iadd hC dX12_learnLine_132 ?_
        refine pm_putf hC 90 fl_X12_192 rfl rfl rfl (by decide) rfl trivial dX12_learnLine_133 ?_
        refine pm_aload_n hC 0 (by decide) dX12_learnLine_136 rfl ?_
        have hV61 := (hV41.put 90 13 (x := (y7 + 1)) (lo := 0) (hi := 12) rfl ⟨by omega, by omega⟩)
        have hF62 := (hF45.upf 13 (y7 + 1) rfl)
        obtain ⟨V59, hv60⟩ : ∃ V, V = (pm_up V39 90 13 (y7 + 1)) := ⟨_, rfl⟩
        rw [← hv60] at hV61 hF62
        rw [← hv60]
        replace hb23 := hb23.trans (pf_let_eq hv60.symm)
        have e63 : V59 90 1 = y1 := by rw [hv60]; exact e46
        have e64 : V59 90 2 = y48 := by rw [hv60]; exact e49
        have e65 : V59 90 3 = y51 := by rw [hv60]; exact e52
        have e66 : V59 90 4 = y54 := by rw [hv60]; exact e55
        have e67 : V59 90 13 = (y7 + 1) := by rw [hv60]; rfl
        have hp68 : pm_az V59 := by rw [hv60]; exact (pm_az.fr hg43 rfl rfl)
        have hp69 : pm_tk V59 := by rw [hv60]; exact (pm_tk.fr htk58 rfl rfl rfl)
        refine pm_callV (ci := 12) (as := []) (st := []) hC 90 fP_X12_closes lm_X12_183 li_X12_closes (by decide) (by decide) rfl rfl rfl (by decide) rfl rfl (Nat.le_of_ble_eq_true rfl) ⟨Nat.le_refl _, Or.inl rfl⟩ dX12_learnLine_137 ⟨rfl, hV61, hp68, hp69⟩ (fun r70 V71 hp72 => ?_)
        obtain ⟨y73, rfl, b74, hV75, hF76, hg77, hg78, hE79⟩ := hp72
        replace hb23 := hb23.trans (pf_call_eq hE79)
        change pm_J X 140 [(0, (3, 90)), (1, (0, (3 * y7))), (2, (0, x11))] [(0, y73)] 118 V71
        have hF80 := pm_fs.tr hF62 hF76 (by decide) (by decide)
        have e81 : V71 90 1 = y1 := by rw [hF76.2 1 (by decide)]; exact e63
        have e82 : V71 90 13 = (y7 + 1) := by rw [hF76.2 13 (by decide)]; exact e67
        obtain ⟨y83, e84⟩ : ∃ y, V71 90 2 = y := ⟨_, rfl⟩
        have b85 := hV75.get 90 2 (lo := 0) (hi := 500) (by decide) (by decide) rfl
        rw [e84] at b85
        replace hb23 := hb23.trans (pf_let_eq e84)
        obtain ⟨y86, e87⟩ : ∃ y, V71 90 3 = y := ⟨_, rfl⟩
        have b88 := hV75.get 90 3 (lo := 0) (hi := 4) (by decide) (by decide) rfl
        rw [e87] at b88
        replace hb23 := hb23.trans (pf_let_eq e87)
        obtain ⟨y89, e90⟩ : ∃ y, V71 90 4 = y := ⟨_, rfl⟩
        have b91 := hV75.get 90 4 (lo := 0) (hi := 500) (by decide) (by decide) rfl
        rw [e90] at b91
        replace hb23 := hb23.trans (pf_let_eq e90)
        have hT := hT.trans (pf_val_inr hb23)
        exact pm_iret hC hR (pm_narZ (by omega)) ⟨y73, rfl, ⟨by omega, by omega, by omega, by omega⟩, hV75, hF80, hg77, hg78, hT⟩ dX12_learnLine_140
      · skip
        replace hb23 := hb23.trans (if_neg (Int.not_le.mpr c28))
        refine pm_aload_n hC 0 (by decide) dX12_learnLine_25 rfl ?_
        obtain ⟨y92, e93⟩ : ∃ y, V13 90 2 = y := ⟨_, rfl⟩
        have b94 := hV14.get 90 2 (lo := 0) (hi := 500) (by decide) (by decide) rfl
        rw [e93] at b94
        replace hb23 := hb23.trans (pf_let_eq e93)
        obtain ⟨y95, e96⟩ : ∃ y, V13 90 3 = y := ⟨_, rfl⟩
        have b97 := hV14.get 90 3 (lo := 0) (hi := 4) (by decide) (by decide) rfl
        rw [e96] at b97
        replace hb23 := hb23.trans (pf_let_eq e96)
        obtain ⟨y98, e99⟩ : ∃ y, V13 90 4 = y := ⟨_, rfl⟩
        have b100 := hV14.get 90 4 (lo := 0) (hi := 500) (by decide) (by decide) rfl
        rw [e99] at b100
        replace hb23 := hb23.trans (pf_let_eq e99)
        refine pm_callV (ci := 12) (as := []) (st := []) hC 90 fP_X12_leads lm_X12_148 li_X12_leads (by decide) (by decide) rfl rfl rfl (by decide) rfl rfl (Nat.le_of_ble_eq_true rfl) ⟨Nat.le_refl _, Or.inl rfl⟩ dX12_learnLine_26 ⟨rfl, hV14, hp18⟩ (fun r101 V102 hp103 => ?_)
        obtain ⟨rfl, hV104, hF105, hg106, hE107⟩ := hp103
        replace hb23 := hb23.trans (pf_call_eq hE107)
        change pm_J X 29 [(0, (3, 90)), (1, (0, (3 * y7))), (2, (0, x11))] [] 118 V102
        have hF108 := pm_fs.tr hF15 hF105 (by decide) (by decide)
        have e109 : V102 90 1 = y1 := by rw [hF105.2 1 (by decide)]; exact e16
        have e110 : V102 90 13 = y7 := by rw [hF105.2 13 (by decide)]; exact e17
        obtain ⟨y111, e112⟩ : ∃ y, V102 90 2 = y := ⟨_, rfl⟩
        have b113 := hV104.get 90 2 (lo := 0) (hi := 500) (by decide) (by decide) rfl
        rw [e112] at b113
        replace hb23 := hb23.trans (pf_let_eq e112)
        obtain ⟨y114, e115⟩ : ∃ y, V102 90 3 = y := ⟨_, rfl⟩
        have b116 := hV104.get 90 3 (lo := 0) (hi := 4) (by decide) (by decide) rfl
        rw [e115] at b116
        replace hb23 := hb23.trans (pf_let_eq e115)
        obtain ⟨y117, e118⟩ : ∃ y, V102 90 4 = y := ⟨_, rfl⟩
        have b119 := hV104.get 90 4 (lo := 0) (hi := 500) (by decide) (by decide) rfl
        rw [e118] at b119
        replace hb23 := hb23.trans (pf_let_eq e118)
        have hpr120 := r_leads_pr hV14 hp18 hE107
        have htk121 : pm_tk V102 := hpr120.2.2.2.1
        refine pm_aload_n hC 0 (by decide) dX12_learnLine_29 rfl ?_
        have e122 : V102 90 14 = 96 := hV104.one 90 14 (by decide) (by decide) rfl
        refine pm_getf (v := 96) hC 90 fl_X12_28 rfl rfl (by decide) rfl e122 dX12_learnLine_30 ?_
        refine pm_iload_n hC 1 dX12_learnLine_33 rfl ?_
        refine pm_iload_n hC 2 dX12_learnLine_34 rfl ?_
        refine pm_iadd hC dX12_learnLine_35 ?_
        refine pm_aload_n hC 0 (by decide) dX12_learnLine_36 rfl ?_
        refine pm_callV (ci := 12) (as := []) (st := [(0, ((3 * y7) + x11)), (3, 96)]) hC 90 fP_X12_named lm_X12_176 li_X12_named (by decide) (by decide) rfl rfl rfl (by decide) rfl rfl (Nat.le_of_ble_eq_true rfl) ⟨Nat.le_refl _, Or.inl rfl⟩ dX12_learnLine_37 ⟨rfl, hV104⟩ (fun r123 V124 hp125 => ?_)
        obtain ⟨y126, rfl, b127, rfl, hE128⟩ := hp125
        replace hb23 := hb23.trans (pf_call_eq hE128)
        change pm_J X 40 [(0, (3, 90)), (1, (0, (3 * y7))), (2, (0, x11))] [(0, y126), (0, ((3 * y7) + x11)), (3, 96)] 118 V102
        refine pm_iastore (len := 36) hC 96 rfl rfl (by decide) ⟨by omega, by omega⟩ (by decide) dX12_learnLine_40 ?_
        refine pm_aload_n hC 0 (by decide) dX12_learnLine_41 rfl ?_
        refine pm_getf (v := 96) hC 90 fl_X12_28 rfl rfl (by decide) rfl e122 dX12_learnLine_42 ?_
        refine pm_iload_n hC 1 dX12_learnLine_45 rfl ?_
        refine pm_iload_n hC 2 dX12_learnLine_46 rfl ?_
        refine pm_iadd hC dX12_learnLine_47 ?_
        have hV131 := (hV104.put 96 (((3 * y7) + x11) : Int).toNat (x := y126) (lo := (-1)) (hi := 8) rfl ⟨by omega, by omega⟩)
        have hF132 := (hF108.up 96 (((3 * y7) + x11) : Int).toNat y126 (by decide) rfl)
        obtain ⟨V129, hv130⟩ : ∃ V, V = (pm_up V102 96 (((3 * y7) + x11) : Int).toNat y126) := ⟨_, rfl⟩
        rw [← hv130] at hV131 hF132
        rw [← hv130]
        replace hb23 := hb23.trans (pf_let_eq hv130.symm)
        have e133 : V129 90 1 = y1 := by rw [hv130]; exact e109
        have e134 : V129 90 13 = y7 := by rw [hv130]; exact e110
        have e135 : V129 90 2 = y111 := by rw [hv130]; exact e112
        have e136 : V129 90 3 = y114 := by rw [hv130]; exact e115
        have e137 : V129 90 4 = y117 := by rw [hv130]; exact e118
        have e138 : V129 90 14 = 96 := by rw [hv130]; exact e122
        have hp139 : pm_az V129 := by rw [hv130]; exact (pm_az.fr hg106 rfl rfl)
        have hp140 : pm_tk V129 := by rw [hv130]; exact (pm_tk.fr htk121 rfl rfl rfl)
        obtain ⟨y141, e142⟩ : ∃ y, V129 96 (((3 * y7) + x11) : Int).toNat = y := ⟨_, rfl⟩
        replace hb23 := hb23.trans (pf_let_eq e142)
        have b143 := hV131.get 96 (((3 * y7) + x11) : Int).toNat (lo := (-1)) (hi := 8) (t := 0) (by decide) (show _ < 36 by omega) rfl
        rw [e142] at b143
        refine pm_iaload (len := 36) (v := y141) hC 96 rfl rfl (by decide) ⟨by omega, by omega⟩ (by decide) e142 dX12_learnLine_48 ?_
        refine pm_iconst (v := (-1)) hC dX12_learnLine_49 ?_
        refine pm_icmp_ne (tgt := 55) hC ⟨by omega, by omega⟩ ⟨by decide, by decide⟩ dX12_learnLine_50 (by decide) (fun c144 => ?_) (fun c144 => ?_)
        · skip
          replace hb23 := hb23.trans (if_pos c144)
          refine pm_iconst (v := 0) hC dX12_learnLine_55 ?_
          refine pm_istore_n (lv' := [(3, (0, 0)), (0, (3, 90)), (1, (0, (3 * y7))), (2, (0, x11))]) hC dX12_learnLine_56 (by decide) rfl ?_
          obtain ⟨B147, hB148, hb23⟩ := pf_loop hb23
          have L150 : ∀ (N152 : Nat) (x145 : Int), (0 ≤ x145 ∧ x145 ≤ 16) → B21 (x11, V13) = pf_val (.inr ((0 : Int), V0)) B147 x145 → (Int.toNat (16 - x145)) = N152 → pm_J X 57 [(0, (3, 90)), (1, (0, (3 * y7))), (2, (0, x11)), (3, (0, x145))] [] 118 V129 := by
            intro N152
            induction N152 using Nat.strongRecOn with
            | _ N152 ih153 =>
            intro x145 b146 hb23 hm151
            have hb149 := congrFun hB148 x145
            refine pm_iload_n hC 3 dX12_learnLine_57 rfl ?_
            refine pm_aload_n hC 0 (by decide) dX12_learnLine_58 rfl ?_
            refine pm_getf (v := y7) hC 90 fl_X12_192 rfl rfl (by decide) rfl e134 dX12_learnLine_59 ?_
            refine pm_icmp_ge (tgt := 116) hC ⟨by omega, by omega⟩ ⟨by omega, by omega⟩ dX12_learnLine_62 (by decide) (fun c154 => ?_) (fun c154 => ?_)
            · skip
              replace hb149 := hb149.trans (if_pos c154)
              obtain ⟨x155, ei156⟩ : ∃ y : Int, x11 + 1 = y := ⟨_, rfl⟩
              replace hb149 := hb149.trans (pf_let_eq ei156)
              refine pm_iinc (y := x155) (lv' := [(2, (0, x155)), (0, (3, 90)), (1, (0, (3 * y7))), (3, (0, x145))]) hC 2 dX12_learnLine_116 (by decide) rfl ei156 rfl ?_
              refine pm_goto (tgt := 20) hC dX12_learnLine_119 (by decide) ?_
              have hb23 := hb23.trans (pf_val_inr hb149)
              refine pm_lvsub [1, 2, 0] (lv' := [(0, (3, 90)), (1, (0, (3 * y7))), (2, (0, x155))]) rfl ?_
              exact ih27 _ (by omega) x155 V129 ⟨by omega, by omega⟩ hV131 hF132 e133 e134 hp139 hp140 (by (have e : V129 90 2 = y111 := e135); rw [e]; omega) (hT.trans (pf_val_inl hb23)) rfl
            · skip
              replace hb149 := hb149.trans (if_neg (Int.not_le.mpr c154))
              refine pm_iload_n hC 2 dX12_learnLine_65 rfl ?_
              refine pm_iconst (v := 1) hC dX12_learnLine_66 ?_
              refine pm_icmp_ne (tgt := 116) hC ⟨by omega, by omega⟩ ⟨by decide, by decide⟩ dX12_learnLine_67 (by decide) (fun c157 => ?_) (fun c157 => ?_)
              · skip
                replace hb149 := hb149.trans (if_pos c157)
                obtain ⟨x158, ei159⟩ : ∃ y : Int, x11 + 1 = y := ⟨_, rfl⟩
                replace hb149 := hb149.trans (pf_let_eq ei159)
                refine pm_iinc (y := x158) (lv' := [(2, (0, x158)), (0, (3, 90)), (1, (0, (3 * y7))), (3, (0, x145))]) hC 2 dX12_learnLine_116 (by decide) rfl ei159 rfl ?_
                refine pm_goto (tgt := 20) hC dX12_learnLine_119 (by decide) ?_
                have hb23 := hb23.trans (pf_val_inr hb149)
                refine pm_lvsub [1, 2, 0] (lv' := [(0, (3, 90)), (1, (0, (3 * y7))), (2, (0, x158))]) rfl ?_
                exact ih27 _ (by omega) x158 V129 ⟨by omega, by omega⟩ hV131 hF132 e133 e134 hp139 hp140 (by (have e : V129 90 2 = y111 := e135); rw [e]; omega) (hT.trans (pf_val_inl hb23)) rfl
              · skip
                replace hb149 := hb149.trans (if_neg (fun q => q c157))
                refine pm_aload_n hC 0 (by decide) dX12_learnLine_70 rfl ?_
                refine pm_getf (v := 96) hC 90 fl_X12_28 rfl rfl (by decide) rfl e138 dX12_learnLine_71 ?_
                refine pm_iconst (v := 3) hC dX12_learnLine_74 ?_
                refine pm_iload_n hC 3 dX12_learnLine_75 rfl ?_
                refine pm_imul hC dX12_learnLine_76 ?_
                obtain ⟨y160, e161⟩ : ∃ y, V129 96 ((3 * x145) : Int).toNat = y := ⟨_, rfl⟩
                replace hb149 := hb149.trans (pf_let_eq e161)
                have b162 := hV131.get 96 ((3 * x145) : Int).toNat (lo := (-1)) (hi := 8) (t := 0) (by decide) (show _ < 36 by omega) rfl
                rw [e161] at b162
                refine pm_iaload (len := 36) (v := y160) hC 96 rfl rfl (by decide) ⟨by omega, by omega⟩ (by decide) e161 dX12_learnLine_77 ?_
                refine pm_aload_n hC 0 (by decide) dX12_learnLine_78 rfl ?_
                refine pm_getf (v := 96) hC 90 fl_X12_28 rfl rfl (by decide) rfl e138 dX12_learnLine_79 ?_
                refine pm_iload_n hC 1 dX12_learnLine_82 rfl ?_
                obtain ⟨y163, e164⟩ : ∃ y, V129 96 ((3 * y7) : Int).toNat = y := ⟨_, rfl⟩
                replace hb149 := hb149.trans (pf_let_eq e164)
                have b165 := hV131.get 96 ((3 * y7) : Int).toNat (lo := (-1)) (hi := 8) (t := 0) (by decide) (show _ < 36 by omega) rfl
                rw [e164] at b165
                refine pm_iaload (len := 36) (v := y163) hC 96 rfl rfl (by decide) ⟨by omega, by omega⟩ (by decide) e164 dX12_learnLine_83 ?_
                refine pm_icmp_ne (tgt := 110) hC ⟨by omega, by omega⟩ ⟨by omega, by omega⟩ dX12_learnLine_84 (by decide) (fun c166 => ?_) (fun c166 => ?_)
                · skip
                  replace hb149 := hb149.trans (if_pos c166)
                  obtain ⟨x167, ei168⟩ : ∃ y : Int, x145 + 1 = y := ⟨_, rfl⟩
                  replace hb149 := hb149.trans (pf_let_eq ei168)
                  refine pm_iinc (y := x167) (lv' := [(3, (0, x167)), (0, (3, 90)), (1, (0, (3 * y7))), (2, (0, x11))]) hC 3 dX12_learnLine_110 (by decide) rfl ei168 rfl ?_
                  refine pm_goto (tgt := 57) hC dX12_learnLine_113 (by decide) ?_
                  refine pm_lvsub [1, 2, 3, 0] (lv' := [(0, (3, 90)), (1, (0, (3 * y7))), (2, (0, x11)), (3, (0, x167))]) rfl ?_
                  exact ih153 _ (by omega) x167 ⟨by omega, by omega⟩ (hb23.trans (pf_val_inl hb149)) rfl
                · skip
                  replace hb149 := hb149.trans (if_neg (fun q => q c166))
                  refine pm_aload_n hC 0 (by decide) dX12_learnLine_87 rfl ?_
                  refine pm_getf (v := 96) hC 90 fl_X12_28 rfl rfl (by decide) rfl e138 dX12_learnLine_88 ?_
                  refine pm_iconst (v := 3) hC dX12_learnLine_91 ?_
                  refine pm_iload_n hC 3 dX12_learnLine_92 rfl ?_
                  refine pm_imul hC dX12_learnLine_93 ?_
                  refine pm_iconst (v := 1) hC dX12_learnLine_94 ?_
                  refine pm_iadd hC dX12_learnLine_95 ?_
                  obtain ⟨y169, e170⟩ : ∃ y, V129 96 (((3 * x145) + 1) : Int).toNat = y := ⟨_, rfl⟩
                  replace hb149 := hb149.trans (pf_let_eq e170)
                  have b171 := hV131.get 96 (((3 * x145) + 1) : Int).toNat (lo := (-1)) (hi := 8) (t := 0) (by decide) (show _ < 36 by omega) rfl
                  rw [e170] at b171
                  refine pm_iaload (len := 36) (v := y169) hC 96 rfl rfl (by decide) ⟨by omega, by omega⟩ (by decide) e170 dX12_learnLine_96 ?_
                  refine pm_aload_n hC 0 (by decide) dX12_learnLine_97 rfl ?_
                  refine pm_getf (v := 96) hC 90 fl_X12_28 rfl rfl (by decide) rfl e138 dX12_learnLine_98 ?_
                  refine pm_iload_n hC 1 dX12_learnLine_101 rfl ?_
                  refine pm_iconst (v := 1) hC dX12_learnLine_102 ?_
                  refine pm_iadd hC dX12_learnLine_103 ?_
                  obtain ⟨y172, e173⟩ : ∃ y, V129 96 (((3 * y7) + 1) : Int).toNat = y := ⟨_, rfl⟩
                  replace hb149 := hb149.trans (pf_let_eq e173)
                  have b174 := hV131.get 96 (((3 * y7) + 1) : Int).toNat (lo := (-1)) (hi := 8) (t := 0) (by decide) (show _ < 36 by omega) rfl
                  rw [e173] at b174
                  refine pm_iaload (len := 36) (v := y172) hC 96 rfl rfl (by decide) ⟨by omega, by omega⟩ (by decide) e173 dX12_learnLine_104 ?_
                  refine pm_icmp_ne (tgt := 110) hC ⟨by omega, by omega⟩ ⟨by omega, by omega⟩ dX12_learnLine_105 (by decide) (fun c175 => ?_) (fun c175 => ?_)
                  · skip
                    replace hb149 := hb149.trans (if_pos c175)
                    obtain ⟨x176, ei177⟩ : ∃ y : Int, x145 + 1 = y := ⟨_, rfl⟩
                    replace hb149 := hb149.trans (pf_let_eq ei177)
                    refine pm_iinc (y := x176) (lv' := [(3, (0, x176)), (0, (3, 90)), (1, (0, (3 * y7))), (2, (0, x11))]) hC 3 dX12_learnLine_110 (by decide) rfl ei177 rfl ?_
                    refine pm_goto (tgt := 57) hC dX12_learnLine_113 (by decide) ?_
                    refine pm_lvsub [1, 2, 3, 0] (lv' := [(0, (3, 90)), (1, (0, (3 * y7))), (2, (0, x11)), (3, (0, x176))]) rfl ?_
                    exact ih153 _ (by omega) x176 ⟨by omega, by omega⟩ (hb23.trans (pf_val_inl hb149)) rfl
                  · skip
                    replace hb149 := hb149.trans (if_neg (fun q => q c175))
                    refine pm_iconst (v := 0) hC dX12_learnLine_108 ?_
                    have hb23 := hb23.trans (pf_val_inr hb149)
                    have hT := hT.trans (pf_val_inr hb23)
                    exact pm_iret hC hR (pm_narZ (by omega)) ⟨0, rfl, ⟨by omega, by omega, by omega, by omega⟩, hV131, hF132, hp139, hp140, hT⟩ dX12_learnLine_109
          refine pm_lvsub [1, 2, 3, 0] (lv' := [(0, (3, 90)), (1, (0, (3 * y7))), (2, (0, x11)), (3, (0, 0))]) rfl ?_
          exact L150 _ 0 ⟨by decide, by decide⟩ hb23 rfl
        · skip
          replace hb23 := hb23.trans (if_neg (fun q => q c144))
          refine pm_iconst (v := 0) hC dX12_learnLine_53 ?_
          have hT := hT.trans (pf_val_inr hb23)
          exact pm_iret hC hR (pm_narZ (by omega)) ⟨0, rfl, ⟨by omega, by omega, by omega, by omega⟩, hV131, hF132, hp139, hp140, hT⟩ dX12_learnLine_54
    refine pm_lvsub [2, 1, 0] (lv' := [(0, (3, 90)), (1, (0, (3 * y7))), (2, (0, 0))]) rfl ?_
    exact L24 _ 0 V0 ⟨by decide, by decide⟩ hV0 (pm_fs.rf (cs := [96]) (fs := [2, 3, 4, 5, 13]) (V := V0)) e2 e8 hn_pm_az hn_pm_tk (by (have e : V0 90 2 = y4 := e5); rw [e]; omega) hT rfl
  · skip
    replace hT := hT.trans (if_neg (fun q => q c10))
    refine pm_iconst (v := 0) hC dX12_learnLine_9 ?_
    obtain ⟨y178, e179⟩ : ∃ y, V0 90 3 = y := ⟨_, rfl⟩
    have b180 := hV0.get 90 3 (lo := 0) (hi := 4) (by decide) (by decide) rfl
    rw [e179] at b180
    replace hT := hT.trans (pf_let_eq e179)
    obtain ⟨y181, e182⟩ : ∃ y, V0 90 4 = y := ⟨_, rfl⟩
    have b183 := hV0.get 90 4 (lo := 0) (hi := 500) (by decide) (by decide) rfl
    rw [e182] at b183
    replace hT := hT.trans (pf_let_eq e182)
    exact pm_iret hC hR (pm_narZ (by omega)) ⟨0, rfl, ⟨by omega, by omega, by omega, by omega⟩, hV0, (pm_fs.rf (cs := [96]) (fs := [2, 3, 4, 5, 13]) (V := V0)), hn_pm_az, hn_pm_tk, hT⟩ dX12_learnLine_10
set_option maxHeartbeats 4000000 in
set_option maxRecDepth 100000 in
theorem fP_X12_number (a1 a2 : Int) (h0 : 0 ≤ a1 ∧ a1 ≤ 9999) (h1 : 0 ≤ a2 ∧ a2 ≤ 9999) : pm_K 3 yX12_number cX12_number 3 (some .boolean) (fun av V => av = [(3, 90), (0, a1), (0, a2)] ∧ pm_oq pm_qP V ∧ pm_az V ∧ pm_tk V) (fun _ V r V' => ∃ y, r = some (0, y) ∧ (0 ≤ y ∧ y ≤ 1 ∧ (y = 1 → V 90 4 + 1 ≤ V' 90 4) ∧ (y = 1 → a1 ≤ V' 90 37 ∧ V' 90 37 ≤ a2) ∧ (y = 1 → V' 90 3 ≤ 5 * (V' 90 2 - V 90 2)) ∧ (V 90 2 ≤ V' 90 2)) ∧ pm_oq pm_qP V' ∧ pm_fs [] [2, 3, 4, 5, 37] V V' ∧ pm_az V' ∧ pm_tk V' ∧ F_X12_number a1 a2 V = (y, V')) := by
  refine pm_MT.of (by decide) ⟨Nat.le_refl _, by decide⟩ (fun av V h => by rw [h.1]; exact (by decide : pm_words [(3, 0), (0, 0), (0, 0)] ≤ 3)) ?_
  rintro X av V0 hC - hR ⟨rfl, hV0, hn_pm_az, hn_pm_tk⟩
  change pm_J X 0 [(0, (3, 90)), (1, (0, a1)), (2, (0, a2))] [] 118 V0
  have hT := F_X12_number_eq a1 a2 V0
  obtain ⟨y1, e2⟩ : ∃ y, V0 90 1 = y := ⟨_, rfl⟩
  have b3 := hV0.get 90 1 (lo := 0) (hi := 500) (by decide) (by decide) rfl
  rw [e2] at b3
  replace hT := hT.trans (pf_let_eq e2)
  obtain ⟨y4, e5⟩ : ∃ y, V0 90 2 = y := ⟨_, rfl⟩
  have b6 := hV0.get 90 2 (lo := 0) (hi := 500) (by decide) (by decide) rfl
  rw [e5] at b6
  replace hT := hT.trans (pf_let_eq e5)
  obtain ⟨y7, e8⟩ : ∃ y, V0 90 3 = y := ⟨_, rfl⟩
  have b9 := hV0.get 90 3 (lo := 0) (hi := 4) (by decide) (by decide) rfl
  rw [e8] at b9
  replace hT := hT.trans (pf_let_eq e8)
  obtain ⟨y10, e11⟩ : ∃ y, V0 90 4 = y := ⟨_, rfl⟩
  have b12 := hV0.get 90 4 (lo := 0) (hi := 500) (by decide) (by decide) rfl
  rw [e11] at b12
  replace hT := hT.trans (pf_let_eq e11)
  have hsz := hn_pm_az
  unfold pm_az at hsz
  rw [e5, e2] at hsz
  have htk := hn_pm_tk
  unfold pm_tk at htk
  refine pm_aload_n hC 0 (by decide) dX12_number_0 rfl ?_
  refine pm_getf (v := y7) hC 90 fl_X12_112 rfl rfl (by decide) rfl e8 dX12_number_1 ?_
  refine pm_iconst (v := 2) hC dX12_number_4 ?_
  refine pm_icmp_ne (tgt := 28) hC ⟨by omega, by omega⟩ ⟨by decide, by decide⟩ dX12_number_5 (by decide) (fun c13 => ?_) (fun c13 => ?_)
  · skip
    replace hT := hT.trans (if_pos c13)
    refine pm_iconst (v := 0) hC dX12_number_28 ?_
    exact pm_iret hC hR (pm_narZ (by omega)) ⟨0, rfl, ⟨by omega, by omega, by omega, by omega, by omega, by omega⟩, hV0, (pm_fs.rf (cs := []) (fs := [2, 3, 4, 5, 37]) (V := V0)), hn_pm_az, hn_pm_tk, hT⟩ dX12_number_29
  · skip
    replace hT := hT.trans (if_neg (fun q => q c13))
    refine pm_aload_n hC 0 (by decide) dX12_number_8 rfl ?_
    obtain ⟨y14, e15⟩ : ∃ y, V0 90 5 = y := ⟨_, rfl⟩
    have b16 := hV0.get 90 5 (lo := (-9223372036854775808)) (hi := 9223372036854775807) (by decide) (by decide) rfl
    rw [e15] at b16
    replace hT := hT.trans (pf_let_eq e15)
    refine pm_getf (v := y14) hC 90 fl_X12_108 rfl rfl (by decide) rfl e15 dX12_number_9 ?_
    refine pm_iload_n hC 1 dX12_number_12 rfl ?_
    refine pm_i2l hC ⟨by omega, by omega⟩ dX12_number_13 ?_
    refine pm_lcmp hC ⟨by omega, by omega⟩ ⟨by omega, by omega⟩ dX12_number_14 (fun y17 b18 => ?_)
    replace hT := hT.trans (pf_let_eq (pm_cmp_u b18))
    refine pm_if_lt (tgt := 28) hC ⟨by omega, by omega⟩ dX12_number_15 (by decide) (fun c19 => ?_) (fun c19 => ?_)
    · skip
      replace hT := hT.trans (if_pos c19)
      refine pm_iconst (v := 0) hC dX12_number_28 ?_
      exact pm_iret hC hR (pm_narZ (by omega)) ⟨0, rfl, ⟨by omega, by omega, by omega, by omega, by omega, by omega⟩, hV0, (pm_fs.rf (cs := []) (fs := [2, 3, 4, 5, 37]) (V := V0)), hn_pm_az, hn_pm_tk, hT⟩ dX12_number_29
    · skip
      replace hT := hT.trans (if_neg (Int.not_lt.mpr c19))
      refine pm_aload_n hC 0 (by decide) dX12_number_18 rfl ?_
      refine pm_getf (v := y14) hC 90 fl_X12_108 rfl rfl (by decide) rfl e15 dX12_number_19 ?_
      refine pm_iload_n hC 2 dX12_number_22 rfl ?_
      refine pm_i2l hC ⟨by omega, by omega⟩ dX12_number_23 ?_
      refine pm_lcmp hC ⟨by omega, by omega⟩ ⟨by omega, by omega⟩ dX12_number_24 (fun y20 b21 => ?_)
      replace hT := hT.trans (pf_let_eq (pm_cmp_u b21))
      refine pm_if_le (tgt := 30) hC ⟨by omega, by omega⟩ dX12_number_25 (by decide) (fun c22 => ?_) (fun c22 => ?_)
      · skip
        replace hT := hT.trans (if_pos c22)
        refine pm_aload_n hC 0 (by decide) dX12_number_30 rfl ?_
        refine pm_aload_n hC 0 (by decide) dX12_number_31 rfl ?_
        refine pm_getf (v := y14) hC 90 fl_X12_108 rfl rfl (by decide) rfl e15 dX12_number_32 ?_
        refine pm_l2i hC dX12_number_35 ?_
        refine pm_putf hC 90 fl_X12_151 rfl rfl rfl (by decide) rfl trivial dX12_number_36 ?_
        refine pm_aload_n hC 0 (by decide) dX12_number_39 rfl ?_
        have hV25 := (hV0.put 90 37 (x := y14) (lo := (-2147483648)) (hi := 2147483647) rfl ⟨by omega, by omega⟩)
        have hF26 := ((pm_fs.rf (cs := []) (fs := [2, 3, 4, 5, 37]) (V := V0)).upf 37 y14 rfl)
        obtain ⟨V23, hv24⟩ : ∃ V, V = (pm_up V0 90 37 y14) := ⟨_, rfl⟩
        rw [← hv24] at hV25 hF26
        rw [← hv24]
        replace hT := hT.trans (pf_let_eq hv24.symm)
        have e27 : V23 90 1 = y1 := by rw [hv24]; exact e2
        have e28 : V23 90 2 = y4 := by rw [hv24]; exact e5
        have e29 : V23 90 3 = y7 := by rw [hv24]; exact e8
        have e30 : V23 90 4 = y10 := by rw [hv24]; exact e11
        have e31 : V23 90 5 = y14 := by rw [hv24]; exact e15
        have e32 : V23 90 37 = y14 := by rw [hv24]; rfl
        have hp33 : pm_az V23 := by rw [hv24]; exact (pm_az.fr hn_pm_az rfl rfl)
        have hp34 : pm_tk V23 := by rw [hv24]; exact (pm_tk.fr hn_pm_tk rfl rfl rfl)
        refine pm_callV (ci := 12) (as := []) (st := []) hC 90 fP_X12_leads lm_X12_148 li_X12_leads (by decide) (by decide) rfl rfl rfl (by decide) rfl rfl (Nat.le_of_ble_eq_true rfl) ⟨Nat.le_refl _, Or.inl rfl⟩ dX12_number_40 ⟨rfl, hV25, hp33⟩ (fun r35 V36 hp37 => ?_)
        obtain ⟨rfl, hV38, hF39, hg40, hE41⟩ := hp37
        replace hT := hT.trans (pf_call_eq hE41)
        change pm_J X 43 [(0, (3, 90)), (1, (0, a1)), (2, (0, a2))] [] 118 V36
        have hF42 := pm_fs.tr hF26 hF39 (by decide) (by decide)
        have e43 : V36 90 1 = y1 := by rw [hF39.2 1 (by decide)]; exact e27
        have e44 : V36 90 37 = y14 := by rw [hF39.2 37 (by decide)]; exact e32
        obtain ⟨y45, e46⟩ : ∃ y, V36 90 2 = y := ⟨_, rfl⟩
        have b47 := hV38.get 90 2 (lo := 0) (hi := 500) (by decide) (by decide) rfl
        rw [e46] at b47
        replace hT := hT.trans (pf_let_eq e46)
        obtain ⟨y48, e49⟩ : ∃ y, V36 90 3 = y := ⟨_, rfl⟩
        have b50 := hV38.get 90 3 (lo := 0) (hi := 4) (by decide) (by decide) rfl
        rw [e49] at b50
        replace hT := hT.trans (pf_let_eq e49)
        obtain ⟨y51, e52⟩ : ∃ y, V36 90 4 = y := ⟨_, rfl⟩
        have b53 := hV38.get 90 4 (lo := 0) (hi := 500) (by decide) (by decide) rfl
        rw [e52] at b53
        replace hT := hT.trans (pf_let_eq e52)
        have hpr54 := r_leads_pr hV25 hp33 hE41
        have htk55 : pm_tk V36 := hpr54.2.2.2.1
        refine pm_iconst (v := 1) hC dX12_number_43 ?_
        exact pm_iret hC hR (pm_narZ (by omega)) ⟨1, rfl, ⟨by omega, by omega, by omega, by omega, by omega, by omega⟩, hV38, hF42, hg40, htk55, hT⟩ dX12_number_44
      · skip
        replace hT := hT.trans (if_neg (Int.not_le.mpr c22))
        refine pm_iconst (v := 0) hC dX12_number_28 ?_
        exact pm_iret hC hR (pm_narZ (by omega)) ⟨0, rfl, ⟨by omega, by omega, by omega, by omega, by omega, by omega⟩, hV0, (pm_fs.rf (cs := []) (fs := [2, 3, 4, 5, 37]) (V := V0)), hn_pm_az, hn_pm_tk, hT⟩ dX12_number_29
set_option maxHeartbeats 4000000 in
set_option maxRecDepth 100000 in
theorem fP_X12_holdLine  : pm_K 8 yX12_holdLine cX12_holdLine 2 (some .boolean) (fun av V => av = [(3, 90)] ∧ pm_oq pm_qP V ∧ pm_az V ∧ pm_tk V) (fun _ V r V' => ∃ y, r = some (0, y) ∧ (0 ≤ y ∧ y ≤ 1 ∧ (y = 1 → V' 90 3 ≤ 5 * (V' 90 2 - V 90 2)) ∧ (V 90 2 ≤ V' 90 2)) ∧ pm_oq pm_qP V' ∧ pm_fs [93, 94] [2, 3, 4, 5, 37] V V' ∧ pm_az V' ∧ pm_tk V' ∧ F_X12_holdLine  V = (y, V')) := by
  refine pm_MT.of (by decide) ⟨Nat.le_refl _, by decide⟩ (fun av V h => by rw [h.1]; exact (by decide : pm_words [(3, 0)] ≤ 2)) ?_
  rintro X av V0 hC - hR ⟨rfl, hV0, hn_pm_az, hn_pm_tk⟩
  change pm_J X 0 [(0, (3, 90))] [] 118 V0
  have hT := F_X12_holdLine_eq  V0
  obtain ⟨y1, e2⟩ : ∃ y, V0 90 1 = y := ⟨_, rfl⟩
  have b3 := hV0.get 90 1 (lo := 0) (hi := 500) (by decide) (by decide) rfl
  rw [e2] at b3
  replace hT := hT.trans (pf_let_eq e2)
  obtain ⟨y4, e5⟩ : ∃ y, V0 90 2 = y := ⟨_, rfl⟩
  have b6 := hV0.get 90 2 (lo := 0) (hi := 500) (by decide) (by decide) rfl
  rw [e5] at b6
  replace hT := hT.trans (pf_let_eq e5)
  have hsz := hn_pm_az
  unfold pm_az at hsz
  rw [e5, e2] at hsz
  refine pm_aload_n hC 0 (by decide) dX12_holdLine_0 rfl ?_
  obtain ⟨y7, e8⟩ : ∃ y, V0 90 3 = y := ⟨_, rfl⟩
  have b9 := hV0.get 90 3 (lo := 0) (hi := 4) (by decide) (by decide) rfl
  rw [e8] at b9
  replace hT := hT.trans (pf_let_eq e8)
  obtain ⟨y10, e11⟩ : ∃ y, V0 90 4 = y := ⟨_, rfl⟩
  have b12 := hV0.get 90 4 (lo := 0) (hi := 500) (by decide) (by decide) rfl
  rw [e11] at b12
  replace hT := hT.trans (pf_let_eq e11)
  refine pm_callV (ci := 12) (as := []) (st := []) hC 90 fP_X12_leads lm_X12_148 li_X12_leads (by decide) (by decide) rfl rfl rfl (by decide) rfl rfl (Nat.le_of_ble_eq_true rfl) ⟨Nat.le_refl _, Or.inl rfl⟩ dX12_holdLine_1 ⟨rfl, hV0, hn_pm_az⟩ (fun r13 V14 hp15 => ?_)
  obtain ⟨rfl, hV16, hF17, hg18, hE19⟩ := hp15
  replace hT := hT.trans (pf_call_eq hE19)
  change pm_J X 4 [(0, (3, 90))] [] 118 V14
  have hF20 := pm_fs.tr (pm_fs.rf (cs := [93, 94]) (fs := [2, 3, 4, 5, 37]) (V := V0)) hF17 (by decide) (by decide)
  have e21 : V14 90 1 = y1 := by rw [hF17.2 1 (by decide)]; exact e2
  obtain ⟨y22, e23⟩ : ∃ y, V14 90 2 = y := ⟨_, rfl⟩
  have b24 := hV16.get 90 2 (lo := 0) (hi := 500) (by decide) (by decide) rfl
  rw [e23] at b24
  replace hT := hT.trans (pf_let_eq e23)
  obtain ⟨y25, e26⟩ : ∃ y, V14 90 3 = y := ⟨_, rfl⟩
  have b27 := hV16.get 90 3 (lo := 0) (hi := 4) (by decide) (by decide) rfl
  rw [e26] at b27
  replace hT := hT.trans (pf_let_eq e26)
  obtain ⟨y28, e29⟩ : ∃ y, V14 90 4 = y := ⟨_, rfl⟩
  have b30 := hV16.get 90 4 (lo := 0) (hi := 500) (by decide) (by decide) rfl
  rw [e29] at b30
  replace hT := hT.trans (pf_let_eq e29)
  have hpr31 := r_leads_pr hV0 hn_pm_az hE19
  have htk32 : pm_tk V14 := hpr31.2.2.2.1
  refine pm_aload_n hC 0 (by decide) dX12_holdLine_4 rfl ?_
  refine pm_callV (ci := 12) (as := []) (st := []) hC 90 fP_X12_named lm_X12_176 li_X12_named (by decide) (by decide) rfl rfl rfl (by decide) rfl rfl (Nat.le_of_ble_eq_true rfl) ⟨Nat.le_refl _, Or.inl rfl⟩ dX12_holdLine_5 ⟨rfl, hV16⟩ (fun r33 V34 hp35 => ?_)
  obtain ⟨y36, rfl, b37, rfl, hE38⟩ := hp35
  replace hT := hT.trans (pf_call_eq hE38)
  change pm_J X 8 [(0, (3, 90))] [(0, y36)] 118 V14
  refine pm_istore_n (lv' := [(1, (0, y36)), (0, (3, 90))]) hC dX12_holdLine_8 (by decide) rfl ?_
  refine pm_iload_n hC 0 dX12_holdLine_9 rfl ?_
  refine pm_iconst (v := (-1)) hC dX12_holdLine_10 ?_
  refine pm_icmp_eq (tgt := 23) hC ⟨by omega, by omega⟩ ⟨by decide, by decide⟩ dX12_holdLine_11 (by decide) (fun c39 => ?_) (fun c39 => ?_)
  · skip
    replace hT := hT.trans (if_pos c39)
    refine pm_iconst (v := 0) hC dX12_holdLine_23 ?_
    exact pm_iret hC hR (pm_narZ (by omega)) ⟨0, rfl, ⟨by omega, by omega, by omega, by omega⟩, hV16, hF20, hg18, htk32, hT⟩ dX12_holdLine_24
  · skip
    replace hT := hT.trans (if_neg c39)
    refine pm_aload_n hC 1 (by decide) dX12_holdLine_14 rfl ?_
    have e40 : V14 90 9 = 94 := hV16.one 90 9 (by decide) (by decide) rfl
    refine pm_getf (v := 94) hC 90 fl_X12_21 rfl rfl (by decide) rfl e40 dX12_holdLine_15 ?_
    refine pm_iload_n hC 0 dX12_holdLine_18 rfl ?_
    obtain ⟨y41, e42⟩ : ∃ y, V14 94 (y36 : Int).toNat = y := ⟨_, rfl⟩
    replace hT := hT.trans (pf_let_eq e42)
    have b43 := hV16.get 94 (y36 : Int).toNat (lo := 0) (hi := 1) (t := 0) (by decide) (show _ < 9 by omega) rfl
    rw [e42] at b43
    refine pm_zaload (len := 9) (v := y41) hC 94 rfl rfl (by decide) ⟨by omega, by omega⟩ (by decide) e42 dX12_holdLine_19 ?_
    refine pm_if_eq (tgt := 25) hC ⟨by omega, by omega⟩ dX12_holdLine_20 (by decide) (fun c44 => ?_) (fun c44 => ?_)
    · skip
      replace hT := hT.trans (if_pos c44)
      refine pm_aload_n hC 1 (by decide) dX12_holdLine_25 rfl ?_
      refine pm_callV (ci := 12) (as := []) (st := []) hC 90 fP_X12_leads lm_X12_148 li_X12_leads (by decide) (by decide) rfl rfl rfl (by decide) rfl rfl (Nat.le_of_ble_eq_true rfl) ⟨Nat.le_refl _, Or.inl rfl⟩ dX12_holdLine_26 ⟨rfl, hV16, hg18⟩ (fun r45 V46 hp47 => ?_)
      obtain ⟨rfl, hV48, hF49, hg50, hE51⟩ := hp47
      replace hT := hT.trans (pf_call_eq hE51)
      change pm_J X 29 [(1, (0, y36)), (0, (3, 90))] [] 118 V46
      have hF52 := pm_fs.tr hF20 hF49 (by decide) (by decide)
      have e53 : V46 90 1 = y1 := by rw [hF49.2 1 (by decide)]; exact e21
      have e54 : V46 90 9 = 94 := by rw [hF49.2 9 (by decide)]; exact e40
      obtain ⟨y55, e56⟩ : ∃ y, V46 90 2 = y := ⟨_, rfl⟩
      have b57 := hV48.get 90 2 (lo := 0) (hi := 500) (by decide) (by decide) rfl
      rw [e56] at b57
      replace hT := hT.trans (pf_let_eq e56)
      obtain ⟨y58, e59⟩ : ∃ y, V46 90 3 = y := ⟨_, rfl⟩
      have b60 := hV48.get 90 3 (lo := 0) (hi := 4) (by decide) (by decide) rfl
      rw [e59] at b60
      replace hT := hT.trans (pf_let_eq e59)
      obtain ⟨y61, e62⟩ : ∃ y, V46 90 4 = y := ⟨_, rfl⟩
      have b63 := hV48.get 90 4 (lo := 0) (hi := 500) (by decide) (by decide) rfl
      rw [e62] at b63
      replace hT := hT.trans (pf_let_eq e62)
      have hpr64 := r_leads_pr hV16 hg18 hE51
      have htk65 : pm_tk V46 := hpr64.2.2.2.1
      refine pm_aload_n hC 1 (by decide) dX12_holdLine_29 rfl ?_
      refine pm_iconst (v := 1) hC dX12_holdLine_30 ?_
      refine pm_bipush (v := 9) hC dX12_holdLine_31 (by decide) ?_
      refine pm_callV (ci := 12) (as := [(0, 1), (0, 9)]) (st := []) hC 90 (fP_X12_number 1 9 ⟨by decide, by decide⟩ ⟨by decide, by decide⟩) lm_X12_179 li_X12_number (by decide) (by decide) rfl rfl rfl (by decide) rfl rfl (Nat.le_of_ble_eq_true rfl) ⟨Nat.le_refl _, Or.inl rfl⟩ dX12_holdLine_33 ⟨rfl, hV48, hg50, htk65⟩ (fun r66 V67 hp68 => ?_)
      obtain ⟨y69, rfl, b70, hV71, hF72, hg73, hg74, hE75⟩ := hp68
      replace hT := hT.trans (pf_call_eq hE75)
      change pm_J X 36 [(1, (0, y36)), (0, (3, 90))] [(0, y69)] 118 V67
      have hF76 := pm_fs.tr hF52 hF72 (by decide) (by decide)
      have e77 : V67 90 1 = y1 := by rw [hF72.2 1 (by decide)]; exact e53
      have e78 : V67 90 9 = 94 := by rw [hF72.2 9 (by decide)]; exact e54
      obtain ⟨y79, e80⟩ : ∃ y, V67 90 2 = y := ⟨_, rfl⟩
      have b81 := hV71.get 90 2 (lo := 0) (hi := 500) (by decide) (by decide) rfl
      rw [e80] at b81
      replace hT := hT.trans (pf_let_eq e80)
      obtain ⟨y82, e83⟩ : ∃ y, V67 90 3 = y := ⟨_, rfl⟩
      have b84 := hV71.get 90 3 (lo := 0) (hi := 4) (by decide) (by decide) rfl
      rw [e83] at b84
      replace hT := hT.trans (pf_let_eq e83)
      obtain ⟨y85, e86⟩ : ∃ y, V67 90 4 = y := ⟨_, rfl⟩
      have b87 := hV71.get 90 4 (lo := 0) (hi := 500) (by decide) (by decide) rfl
      rw [e86] at b87
      replace hT := hT.trans (pf_let_eq e86)
      obtain ⟨y88, e89⟩ : ∃ y, V67 90 37 = y := ⟨_, rfl⟩
      have b90 := hV71.get 90 37 (lo := (-2147483648)) (hi := 2147483647) (by decide) (by decide) rfl
      rw [e89] at b90
      replace hT := hT.trans (pf_let_eq e89)
      refine pm_if_ne (tgt := 41) hC ⟨by omega, by omega⟩ dX12_holdLine_36 (by decide) (fun c91 => ?_) (fun c91 => ?_)
      · skip
        replace hT := hT.trans (if_pos c91)
        refine pm_aload_n hC 1 (by decide) dX12_holdLine_41 rfl ?_
        have e92 : V67 90 8 = 93 := hV71.one 90 8 (by decide) (by decide) rfl
        refine pm_getf (v := 93) hC 90 fl_X12_17 rfl rfl (by decide) rfl e92 dX12_holdLine_42 ?_
        refine pm_iconst (v := 3) hC dX12_holdLine_45 ?_
        refine pm_iload_n hC 0 dX12_holdLine_46 rfl ?_
        refine pm_imul hC dX12_holdLine_47 ?_
        refine pm_iconst (v := 2) hC dX12_holdLine_48 ?_
        refine pm_iadd hC dX12_holdLine_49 ?_
        refine pm_aload_n hC 1 (by decide) dX12_holdLine_50 rfl ?_
        refine pm_getf (v := y88) hC 90 fl_X12_151 rfl rfl (by decide) rfl e89 dX12_holdLine_51 ?_
        refine pm_iastore (len := 27) hC 93 rfl rfl (by decide) ⟨by omega, by omega⟩ (by decide) dX12_holdLine_54 ?_
        refine pm_aload_n hC 1 (by decide) dX12_holdLine_55 rfl ?_
        refine pm_getf (v := 94) hC 90 fl_X12_21 rfl rfl (by decide) rfl e78 dX12_holdLine_56 ?_
        refine pm_iload_n hC 0 dX12_holdLine_59 rfl ?_
        refine pm_iconst (v := 1) hC dX12_holdLine_60 ?_
        refine pm_zastore (len := 9) hC 94 rfl rfl (by decide) ⟨by omega, by omega⟩ (by decide) (by omega) dX12_holdLine_61 ?_
        refine pm_aload_n hC 1 (by decide) dX12_holdLine_62 rfl ?_
        have hV95 := ((hV71.put 93 (((3 * y36) + 2) : Int).toNat (x := y88) (lo := 0) (hi := 9) ((pm_qe_r (tb := pm_qP) (k := 93) (i := (((3 * y36) + 2) : Int).toNat) (m := 3) (r := 2) (l := [(0, 99, 0), (0, 99, 0), (0, 9, 0)]) rfl rfl (by omega)).trans rfl) ⟨by omega, by omega⟩).put 94 (y36 : Int).toNat (x := 1) (lo := 0) (hi := 1) rfl ⟨by decide, by decide⟩)
        have hF96 := ((hF76.up 93 (((3 * y36) + 2) : Int).toNat y88 (by decide) rfl).up 94 (y36 : Int).toNat 1 (by decide) rfl)
        obtain ⟨V93, hv94⟩ : ∃ V, V = (pm_up (pm_up V67 93 (((3 * y36) + 2) : Int).toNat y88) 94 (y36 : Int).toNat 1) := ⟨_, rfl⟩
        rw [← hv94] at hV95 hF96
        rw [← hv94]
        replace hT := hT.trans (pf_let_eq hv94.symm)
        have e97 : V93 90 1 = y1 := by rw [hv94]; exact e77
        have e98 : V93 90 9 = 94 := by rw [hv94]; exact e78
        have e99 : V93 90 2 = y79 := by rw [hv94]; exact e80
        have e100 : V93 90 3 = y82 := by rw [hv94]; exact e83
        have e101 : V93 90 4 = y85 := by rw [hv94]; exact e86
        have e102 : V93 90 37 = y88 := by rw [hv94]; exact e89
        have e103 : V93 90 8 = 93 := by rw [hv94]; exact e92
        have hp104 : pm_az V93 := by rw [hv94]; exact (pm_az.fr hg73 rfl rfl)
        have hp105 : pm_tk V93 := by rw [hv94]; exact (pm_tk.fr hg74 rfl rfl rfl)
        refine pm_callV (ci := 12) (as := []) (st := []) hC 90 fP_X12_closes lm_X12_183 li_X12_closes (by decide) (by decide) rfl rfl rfl (by decide) rfl rfl (Nat.le_of_ble_eq_true rfl) ⟨Nat.le_refl _, Or.inl rfl⟩ dX12_holdLine_63 ⟨rfl, hV95, hp104, hp105⟩ (fun r106 V107 hp108 => ?_)
        obtain ⟨y109, rfl, b110, hV111, hF112, hg113, hg114, hE115⟩ := hp108
        replace hT := hT.trans (pf_call_eq hE115)
        change pm_J X 66 [(1, (0, y36)), (0, (3, 90))] [(0, y109)] 118 V107
        have hF116 := pm_fs.tr hF96 hF112 (by decide) (by decide)
        have e117 : V107 90 1 = y1 := by rw [hF112.2 1 (by decide)]; exact e97
        have e118 : V107 90 9 = 94 := by rw [hF112.2 9 (by decide)]; exact e98
        have e119 : V107 90 37 = y88 := by rw [hF112.2 37 (by decide)]; exact e102
        have e120 : V107 90 8 = 93 := by rw [hF112.2 8 (by decide)]; exact e103
        obtain ⟨y121, e122⟩ : ∃ y, V107 90 2 = y := ⟨_, rfl⟩
        have b123 := hV111.get 90 2 (lo := 0) (hi := 500) (by decide) (by decide) rfl
        rw [e122] at b123
        replace hT := hT.trans (pf_let_eq e122)
        obtain ⟨y124, e125⟩ : ∃ y, V107 90 3 = y := ⟨_, rfl⟩
        have b126 := hV111.get 90 3 (lo := 0) (hi := 4) (by decide) (by decide) rfl
        rw [e125] at b126
        replace hT := hT.trans (pf_let_eq e125)
        obtain ⟨y127, e128⟩ : ∃ y, V107 90 4 = y := ⟨_, rfl⟩
        have b129 := hV111.get 90 4 (lo := 0) (hi := 500) (by decide) (by decide) rfl
        rw [e128] at b129
        replace hT := hT.trans (pf_let_eq e128)
        exact pm_iret hC hR (pm_narZ (by omega)) ⟨y109, rfl, ⟨by omega, by omega, by omega, by omega⟩, hV111, hF116, hg113, hg114, hT⟩ dX12_holdLine_66
      · skip
        replace hT := hT.trans (if_neg (fun q => q c91))
        refine pm_iconst (v := 0) hC dX12_holdLine_39 ?_
        exact pm_iret hC hR (pm_narZ (by omega)) ⟨0, rfl, ⟨by omega, by omega, by omega, by omega⟩, hV71, hF76, hg73, hg74, hT⟩ dX12_holdLine_40
    · skip
      replace hT := hT.trans (if_neg c44)
      refine pm_iconst (v := 0) hC dX12_holdLine_23 ?_
      exact pm_iret hC hR (pm_narZ (by omega)) ⟨0, rfl, ⟨by omega, by omega, by omega, by omega⟩, hV16, hF20, hg18, htk32, hT⟩ dX12_holdLine_24
set_option maxHeartbeats 4000000 in
set_option maxRecDepth 100000 in
theorem fP_X12_oddsLine  : pm_K 4 yX12_oddsLine cX12_oddsLine 2 (some .boolean) (fun av V => av = [(3, 90)] ∧ pm_oq pm_qP V ∧ pm_az V ∧ pm_tk V) (fun _ V r V' => ∃ y, r = some (0, y) ∧ (0 ≤ y ∧ y ≤ 1 ∧ (y = 1 → V' 90 3 ≤ 5 * (V' 90 2 - V 90 2)) ∧ (V 90 2 ≤ V' 90 2)) ∧ pm_oq pm_qP V' ∧ pm_fs [] [2, 3, 4, 5, 11, 12, 37] V V' ∧ pm_az V' ∧ pm_tk V' ∧ F_X12_oddsLine  V = (y, V')) := by
  refine pm_MT.of (by decide) ⟨Nat.le_refl _, by decide⟩ (fun av V h => by rw [h.1]; exact (by decide : pm_words [(3, 0)] ≤ 2)) ?_
  rintro X av V0 hC - hR ⟨rfl, hV0, hn_pm_az, hn_pm_tk⟩
  change pm_J X 0 [(0, (3, 90))] [] 118 V0
  have hT := F_X12_oddsLine_eq  V0
  obtain ⟨y1, e2⟩ : ∃ y, V0 90 1 = y := ⟨_, rfl⟩
  have b3 := hV0.get 90 1 (lo := 0) (hi := 500) (by decide) (by decide) rfl
  rw [e2] at b3
  replace hT := hT.trans (pf_let_eq e2)
  obtain ⟨y4, e5⟩ : ∃ y, V0 90 2 = y := ⟨_, rfl⟩
  have b6 := hV0.get 90 2 (lo := 0) (hi := 500) (by decide) (by decide) rfl
  rw [e5] at b6
  replace hT := hT.trans (pf_let_eq e5)
  have hsz := hn_pm_az
  unfold pm_az at hsz
  rw [e5, e2] at hsz
  refine pm_aload_n hC 0 (by decide) dX12_oddsLine_0 rfl ?_
  obtain ⟨y7, e8⟩ : ∃ y, V0 90 11 = y := ⟨_, rfl⟩
  have b9 := hV0.get 90 11 (lo := (-1)) (hi := 16) (by decide) (by decide) rfl
  rw [e8] at b9
  replace hT := hT.trans (pf_let_eq e8)
  refine pm_getf (v := y7) hC 90 fl_X12_186 rfl rfl (by decide) rfl e8 dX12_oddsLine_1 ?_
  refine pm_iconst (v := (-1)) hC dX12_oddsLine_4 ?_
  refine pm_icmp_eq (tgt := 10) hC ⟨by omega, by omega⟩ ⟨by decide, by decide⟩ dX12_oddsLine_5 (by decide) (fun c10 => ?_) (fun c10 => ?_)
  · skip
    replace hT := hT.trans (if_pos c10)
    refine pm_aload_n hC 0 (by decide) dX12_oddsLine_10 rfl ?_
    obtain ⟨y11, e12⟩ : ∃ y, V0 90 3 = y := ⟨_, rfl⟩
    have b13 := hV0.get 90 3 (lo := 0) (hi := 4) (by decide) (by decide) rfl
    rw [e12] at b13
    replace hT := hT.trans (pf_let_eq e12)
    obtain ⟨y14, e15⟩ : ∃ y, V0 90 4 = y := ⟨_, rfl⟩
    have b16 := hV0.get 90 4 (lo := 0) (hi := 500) (by decide) (by decide) rfl
    rw [e15] at b16
    replace hT := hT.trans (pf_let_eq e15)
    refine pm_callV (ci := 12) (as := []) (st := []) hC 90 fP_X12_leads lm_X12_148 li_X12_leads (by decide) (by decide) rfl rfl rfl (by decide) rfl rfl (Nat.le_of_ble_eq_true rfl) ⟨Nat.le_refl _, Or.inl rfl⟩ dX12_oddsLine_11 ⟨rfl, hV0, hn_pm_az⟩ (fun r17 V18 hp19 => ?_)
    obtain ⟨rfl, hV20, hF21, hg22, hE23⟩ := hp19
    replace hT := hT.trans (pf_call_eq hE23)
    change pm_J X 14 [(0, (3, 90))] [] 118 V18
    have hF24 := pm_fs.tr (pm_fs.rf (cs := []) (fs := [2, 3, 4, 5, 11, 12, 37]) (V := V0)) hF21 (by decide) (by decide)
    have e25 : V18 90 1 = y1 := by rw [hF21.2 1 (by decide)]; exact e2
    have e26 : V18 90 11 = y7 := by rw [hF21.2 11 (by decide)]; exact e8
    obtain ⟨y27, e28⟩ : ∃ y, V18 90 2 = y := ⟨_, rfl⟩
    have b29 := hV20.get 90 2 (lo := 0) (hi := 500) (by decide) (by decide) rfl
    rw [e28] at b29
    replace hT := hT.trans (pf_let_eq e28)
    obtain ⟨y30, e31⟩ : ∃ y, V18 90 3 = y := ⟨_, rfl⟩
    have b32 := hV20.get 90 3 (lo := 0) (hi := 4) (by decide) (by decide) rfl
    rw [e31] at b32
    replace hT := hT.trans (pf_let_eq e31)
    obtain ⟨y33, e34⟩ : ∃ y, V18 90 4 = y := ⟨_, rfl⟩
    have b35 := hV20.get 90 4 (lo := 0) (hi := 500) (by decide) (by decide) rfl
    rw [e34] at b35
    replace hT := hT.trans (pf_let_eq e34)
    have hpr36 := r_leads_pr hV0 hn_pm_az hE23
    have htk37 : pm_tk V18 := hpr36.2.2.2.1
    refine pm_aload_n hC 0 (by decide) dX12_oddsLine_14 rfl ?_
    refine pm_iconst (v := 0) hC dX12_oddsLine_15 ?_
    refine pm_bipush (v := 16) hC dX12_oddsLine_16 (by decide) ?_
    refine pm_callV (ci := 12) (as := [(0, 0), (0, 16)]) (st := []) hC 90 (fP_X12_number 0 16 ⟨by decide, by decide⟩ ⟨by decide, by decide⟩) lm_X12_179 li_X12_number (by decide) (by decide) rfl rfl rfl (by decide) rfl rfl (Nat.le_of_ble_eq_true rfl) ⟨Nat.le_refl _, Or.inl rfl⟩ dX12_oddsLine_18 ⟨rfl, hV20, hg22, htk37⟩ (fun r38 V39 hp40 => ?_)
    obtain ⟨y41, rfl, b42, hV43, hF44, hg45, hg46, hE47⟩ := hp40
    replace hT := hT.trans (pf_call_eq hE47)
    change pm_J X 21 [(0, (3, 90))] [(0, y41)] 118 V39
    have hF48 := pm_fs.tr hF24 hF44 (by decide) (by decide)
    have e49 : V39 90 1 = y1 := by rw [hF44.2 1 (by decide)]; exact e25
    have e50 : V39 90 11 = y7 := by rw [hF44.2 11 (by decide)]; exact e26
    obtain ⟨y51, e52⟩ : ∃ y, V39 90 2 = y := ⟨_, rfl⟩
    have b53 := hV43.get 90 2 (lo := 0) (hi := 500) (by decide) (by decide) rfl
    rw [e52] at b53
    replace hT := hT.trans (pf_let_eq e52)
    obtain ⟨y54, e55⟩ : ∃ y, V39 90 3 = y := ⟨_, rfl⟩
    have b56 := hV43.get 90 3 (lo := 0) (hi := 4) (by decide) (by decide) rfl
    rw [e55] at b56
    replace hT := hT.trans (pf_let_eq e55)
    obtain ⟨y57, e58⟩ : ∃ y, V39 90 4 = y := ⟨_, rfl⟩
    have b59 := hV43.get 90 4 (lo := 0) (hi := 500) (by decide) (by decide) rfl
    rw [e58] at b59
    replace hT := hT.trans (pf_let_eq e58)
    obtain ⟨y60, e61⟩ : ∃ y, V39 90 37 = y := ⟨_, rfl⟩
    have b62 := hV43.get 90 37 (lo := (-2147483648)) (hi := 2147483647) (by decide) (by decide) rfl
    rw [e61] at b62
    replace hT := hT.trans (pf_let_eq e61)
    refine pm_if_ne (tgt := 26) hC ⟨by omega, by omega⟩ dX12_oddsLine_21 (by decide) (fun c63 => ?_) (fun c63 => ?_)
    · skip
      replace hT := hT.trans (if_pos c63)
      refine pm_aload_n hC 0 (by decide) dX12_oddsLine_26 rfl ?_
      refine pm_getf (v := y60) hC 90 fl_X12_151 rfl rfl (by decide) rfl e61 dX12_oddsLine_27 ?_
      refine pm_istore_n (lv' := [(1, (0, y60)), (0, (3, 90))]) hC dX12_oddsLine_30 (by decide) rfl ?_
      refine pm_aload_n hC 1 (by decide) dX12_oddsLine_31 rfl ?_
      refine pm_iconst (v := 1) hC dX12_oddsLine_32 ?_
      refine pm_bipush (v := 99) hC dX12_oddsLine_33 (by decide) ?_
      refine pm_callV (ci := 12) (as := [(0, 1), (0, 99)]) (st := []) hC 90 (fP_X12_number 1 99 ⟨by decide, by decide⟩ ⟨by decide, by decide⟩) lm_X12_179 li_X12_number (by decide) (by decide) rfl rfl rfl (by decide) rfl rfl (Nat.le_of_ble_eq_true rfl) ⟨Nat.le_refl _, Or.inl rfl⟩ dX12_oddsLine_35 ⟨rfl, hV43, hg45, hg46⟩ (fun r64 V65 hp66 => ?_)
      obtain ⟨y67, rfl, b68, hV69, hF70, hg71, hg72, hE73⟩ := hp66
      replace hT := hT.trans (pf_call_eq hE73)
      change pm_J X 38 [(1, (0, y60)), (0, (3, 90))] [(0, y67)] 118 V65
      have hF74 := pm_fs.tr hF48 hF70 (by decide) (by decide)
      have e75 : V65 90 1 = y1 := by rw [hF70.2 1 (by decide)]; exact e49
      have e76 : V65 90 11 = y7 := by rw [hF70.2 11 (by decide)]; exact e50
      obtain ⟨y77, e78⟩ : ∃ y, V65 90 2 = y := ⟨_, rfl⟩
      have b79 := hV69.get 90 2 (lo := 0) (hi := 500) (by decide) (by decide) rfl
      rw [e78] at b79
      replace hT := hT.trans (pf_let_eq e78)
      obtain ⟨y80, e81⟩ : ∃ y, V65 90 3 = y := ⟨_, rfl⟩
      have b82 := hV69.get 90 3 (lo := 0) (hi := 4) (by decide) (by decide) rfl
      rw [e81] at b82
      replace hT := hT.trans (pf_let_eq e81)
      obtain ⟨y83, e84⟩ : ∃ y, V65 90 4 = y := ⟨_, rfl⟩
      have b85 := hV69.get 90 4 (lo := 0) (hi := 500) (by decide) (by decide) rfl
      rw [e84] at b85
      replace hT := hT.trans (pf_let_eq e84)
      obtain ⟨y86, e87⟩ : ∃ y, V65 90 37 = y := ⟨_, rfl⟩
      have b88 := hV69.get 90 37 (lo := (-2147483648)) (hi := 2147483647) (by decide) (by decide) rfl
      rw [e87] at b88
      replace hT := hT.trans (pf_let_eq e87)
      refine pm_if_ne (tgt := 43) hC ⟨by omega, by omega⟩ dX12_oddsLine_38 (by decide) (fun c89 => ?_) (fun c89 => ?_)
      · skip
        replace hT := hT.trans (if_pos c89)
        refine pm_aload_n hC 1 (by decide) dX12_oddsLine_43 rfl ?_
        refine pm_iload_n hC 0 dX12_oddsLine_44 rfl ?_
        refine pm_putf hC 90 fl_X12_186 rfl rfl rfl (by decide) rfl trivial dX12_oddsLine_45 ?_
        refine pm_aload_n hC 1 (by decide) dX12_oddsLine_48 rfl ?_
        refine pm_aload_n hC 1 (by decide) dX12_oddsLine_49 rfl ?_
        refine pm_getf (v := y86) hC 90 fl_X12_151 rfl rfl (by decide) rfl e87 dX12_oddsLine_50 ?_
        refine pm_putf hC 90 fl_X12_189 rfl rfl rfl (by decide) rfl trivial dX12_oddsLine_53 ?_
        refine pm_aload_n hC 1 (by decide) dX12_oddsLine_56 rfl ?_
        have hV92 := ((hV69.put 90 11 (x := y60) (lo := (-1)) (hi := 16) rfl ⟨by omega, by omega⟩).put 90 12 (x := y86) (lo := 0) (hi := 99) rfl ⟨by omega, by omega⟩)
        have hF93 := ((hF74.upf 11 y60 rfl).upf 12 y86 rfl)
        obtain ⟨V90, hv91⟩ : ∃ V, V = (pm_up (pm_up V65 90 11 y60) 90 12 y86) := ⟨_, rfl⟩
        rw [← hv91] at hV92 hF93
        rw [← hv91]
        replace hT := hT.trans (pf_let_eq hv91.symm)
        have e94 : V90 90 1 = y1 := by rw [hv91]; exact e75
        have e95 : V90 90 2 = y77 := by rw [hv91]; exact e78
        have e96 : V90 90 3 = y80 := by rw [hv91]; exact e81
        have e97 : V90 90 4 = y83 := by rw [hv91]; exact e84
        have e98 : V90 90 37 = y86 := by rw [hv91]; exact e87
        have e99 : V90 90 11 = y60 := by rw [hv91]; rfl
        have e100 : V90 90 12 = y86 := by rw [hv91]; rfl
        have hp101 : pm_az V90 := by rw [hv91]; exact (pm_az.fr hg71 rfl rfl)
        have hp102 : pm_tk V90 := by rw [hv91]; exact (pm_tk.fr hg72 rfl rfl rfl)
        refine pm_callV (ci := 12) (as := []) (st := []) hC 90 fP_X12_closes lm_X12_183 li_X12_closes (by decide) (by decide) rfl rfl rfl (by decide) rfl rfl (Nat.le_of_ble_eq_true rfl) ⟨Nat.le_refl _, Or.inl rfl⟩ dX12_oddsLine_57 ⟨rfl, hV92, hp101, hp102⟩ (fun r103 V104 hp105 => ?_)
        obtain ⟨y106, rfl, b107, hV108, hF109, hg110, hg111, hE112⟩ := hp105
        replace hT := hT.trans (pf_call_eq hE112)
        change pm_J X 60 [(1, (0, y60)), (0, (3, 90))] [(0, y106)] 118 V104
        have hF113 := pm_fs.tr hF93 hF109 (by decide) (by decide)
        have e114 : V104 90 1 = y1 := by rw [hF109.2 1 (by decide)]; exact e94
        have e115 : V104 90 37 = y86 := by rw [hF109.2 37 (by decide)]; exact e98
        have e116 : V104 90 11 = y60 := by rw [hF109.2 11 (by decide)]; exact e99
        have e117 : V104 90 12 = y86 := by rw [hF109.2 12 (by decide)]; exact e100
        obtain ⟨y118, e119⟩ : ∃ y, V104 90 2 = y := ⟨_, rfl⟩
        have b120 := hV108.get 90 2 (lo := 0) (hi := 500) (by decide) (by decide) rfl
        rw [e119] at b120
        replace hT := hT.trans (pf_let_eq e119)
        obtain ⟨y121, e122⟩ : ∃ y, V104 90 3 = y := ⟨_, rfl⟩
        have b123 := hV108.get 90 3 (lo := 0) (hi := 4) (by decide) (by decide) rfl
        rw [e122] at b123
        replace hT := hT.trans (pf_let_eq e122)
        obtain ⟨y124, e125⟩ : ∃ y, V104 90 4 = y := ⟨_, rfl⟩
        have b126 := hV108.get 90 4 (lo := 0) (hi := 500) (by decide) (by decide) rfl
        rw [e125] at b126
        replace hT := hT.trans (pf_let_eq e125)
        exact pm_iret hC hR (pm_narZ (by omega)) ⟨y106, rfl, ⟨by omega, by omega, by omega, by omega⟩, hV108, hF113, hg110, hg111, hT⟩ dX12_oddsLine_60
      · skip
        replace hT := hT.trans (if_neg (fun q => q c89))
        refine pm_iconst (v := 0) hC dX12_oddsLine_41 ?_
        exact pm_iret hC hR (pm_narZ (by omega)) ⟨0, rfl, ⟨by omega, by omega, by omega, by omega⟩, hV69, hF74, hg71, hg72, hT⟩ dX12_oddsLine_42
    · skip
      replace hT := hT.trans (if_neg (fun q => q c63))
      refine pm_iconst (v := 0) hC dX12_oddsLine_24 ?_
      exact pm_iret hC hR (pm_narZ (by omega)) ⟨0, rfl, ⟨by omega, by omega, by omega, by omega⟩, hV43, hF48, hg45, hg46, hT⟩ dX12_oddsLine_25
  · skip
    replace hT := hT.trans (if_neg c10)
    refine pm_iconst (v := 0) hC dX12_oddsLine_8 ?_
    obtain ⟨y127, e128⟩ : ∃ y, V0 90 3 = y := ⟨_, rfl⟩
    have b129 := hV0.get 90 3 (lo := 0) (hi := 4) (by decide) (by decide) rfl
    rw [e128] at b129
    replace hT := hT.trans (pf_let_eq e128)
    obtain ⟨y130, e131⟩ : ∃ y, V0 90 4 = y := ⟨_, rfl⟩
    have b132 := hV0.get 90 4 (lo := 0) (hi := 500) (by decide) (by decide) rfl
    rw [e131] at b132
    replace hT := hT.trans (pf_let_eq e131)
    exact pm_iret hC hR (pm_narZ (by omega)) ⟨0, rfl, ⟨by omega, by omega, by omega, by omega⟩, hV0, (pm_fs.rf (cs := []) (fs := [2, 3, 4, 5, 11, 12, 37]) (V := V0)), hn_pm_az, hn_pm_tk, hT⟩ dX12_oddsLine_9
set_option maxHeartbeats 4000000 in
set_option maxRecDepth 100000 in
theorem fP_X12_spanLine_d2  : pm_K 4 yX12_spanLine cX12_spanLine 3 (some .boolean) (fun av V => av = [(3, 90), (0, 2)] ∧ pm_oq pm_qP V ∧ pm_az V ∧ pm_tk V) (fun _ V r V' => ∃ y, r = some (0, y) ∧ (0 ≤ y ∧ y ≤ 1 ∧ (y = 1 → V' 90 3 ≤ 5 * (V' 90 2 - V 90 2)) ∧ (V 90 2 ≤ V' 90 2)) ∧ pm_oq pm_qP V' ∧ pm_fs [95] [2, 3, 4, 5, 37] V V' ∧ pm_az V' ∧ pm_tk V' ∧ F_X12_spanLine_d2  V = (y, V')) := by
  refine pm_MT.of (by decide) ⟨Nat.le_refl _, by decide⟩ (fun av V h => by rw [h.1]; exact (by decide : pm_words [(3, 0), (0, 0)] ≤ 3)) ?_
  rintro X av V0 hC - hR ⟨rfl, hV0, hn_pm_az, hn_pm_tk⟩
  change pm_J X 0 [(0, (3, 90)), (1, (0, 2))] [] 118 V0
  have hT := F_X12_spanLine_d2_eq  V0
  obtain ⟨y1, e2⟩ : ∃ y, V0 90 1 = y := ⟨_, rfl⟩
  have b3 := hV0.get 90 1 (lo := 0) (hi := 500) (by decide) (by decide) rfl
  rw [e2] at b3
  replace hT := hT.trans (pf_let_eq e2)
  obtain ⟨y4, e5⟩ : ∃ y, V0 90 2 = y := ⟨_, rfl⟩
  have b6 := hV0.get 90 2 (lo := 0) (hi := 500) (by decide) (by decide) rfl
  rw [e5] at b6
  replace hT := hT.trans (pf_let_eq e5)
  have hsz := hn_pm_az
  unfold pm_az at hsz
  rw [e5, e2] at hsz
  refine pm_aload_n hC 0 (by decide) dX12_spanLine_0 rfl ?_
  have e7 : V0 90 10 = 95 := hV0.one 90 10 (by decide) (by decide) rfl
  refine pm_getf (v := 95) hC 90 fl_X12_25 rfl rfl (by decide) rfl e7 dX12_spanLine_1 ?_
  refine pm_iload_n hC 1 dX12_spanLine_4 rfl ?_
  obtain ⟨y8, e9⟩ : ∃ y, V0 95 (2 : Int).toNat = y := ⟨_, rfl⟩
  replace hT := hT.trans (pf_let_eq e9)
  have b10 := hV0.get 95 (2 : Int).toNat (lo := (-1)) (hi := 60) (t := 0) (by decide) (show _ < 4 by omega) rfl
  rw [e9] at b10
  refine pm_iaload (len := 4) (v := y8) hC 95 rfl rfl (by decide) ⟨by decide, by decide⟩ (by decide) e9 dX12_spanLine_5 ?_
  refine pm_iconst (v := (-1)) hC dX12_spanLine_6 ?_
  refine pm_icmp_eq (tgt := 12) hC ⟨by omega, by omega⟩ ⟨by decide, by decide⟩ dX12_spanLine_7 (by decide) (fun c11 => ?_) (fun c11 => ?_)
  · skip
    replace hT := hT.trans (if_pos c11)
    refine pm_aload_n hC 0 (by decide) dX12_spanLine_12 rfl ?_
    obtain ⟨y12, e13⟩ : ∃ y, V0 90 3 = y := ⟨_, rfl⟩
    have b14 := hV0.get 90 3 (lo := 0) (hi := 4) (by decide) (by decide) rfl
    rw [e13] at b14
    replace hT := hT.trans (pf_let_eq e13)
    obtain ⟨y15, e16⟩ : ∃ y, V0 90 4 = y := ⟨_, rfl⟩
    have b17 := hV0.get 90 4 (lo := 0) (hi := 500) (by decide) (by decide) rfl
    rw [e16] at b17
    replace hT := hT.trans (pf_let_eq e16)
    refine pm_callV (ci := 12) (as := []) (st := []) hC 90 fP_X12_leads lm_X12_148 li_X12_leads (by decide) (by decide) rfl rfl rfl (by decide) rfl rfl (Nat.le_of_ble_eq_true rfl) ⟨Nat.le_refl _, Or.inl rfl⟩ dX12_spanLine_13 ⟨rfl, hV0, hn_pm_az⟩ (fun r18 V19 hp20 => ?_)
    obtain ⟨rfl, hV21, hF22, hg23, hE24⟩ := hp20
    replace hT := hT.trans (pf_call_eq hE24)
    change pm_J X 16 [(0, (3, 90)), (1, (0, 2))] [] 118 V19
    have hF25 := pm_fs.tr (pm_fs.rf (cs := [95]) (fs := [2, 3, 4, 5, 37]) (V := V0)) hF22 (by decide) (by decide)
    have e26 : V19 90 1 = y1 := by rw [hF22.2 1 (by decide)]; exact e2
    have e27 : V19 90 10 = 95 := by rw [hF22.2 10 (by decide)]; exact e7
    obtain ⟨y28, e29⟩ : ∃ y, V19 90 2 = y := ⟨_, rfl⟩
    have b30 := hV21.get 90 2 (lo := 0) (hi := 500) (by decide) (by decide) rfl
    rw [e29] at b30
    replace hT := hT.trans (pf_let_eq e29)
    obtain ⟨y31, e32⟩ : ∃ y, V19 90 3 = y := ⟨_, rfl⟩
    have b33 := hV21.get 90 3 (lo := 0) (hi := 4) (by decide) (by decide) rfl
    rw [e32] at b33
    replace hT := hT.trans (pf_let_eq e32)
    obtain ⟨y34, e35⟩ : ∃ y, V19 90 4 = y := ⟨_, rfl⟩
    have b36 := hV21.get 90 4 (lo := 0) (hi := 500) (by decide) (by decide) rfl
    rw [e35] at b36
    replace hT := hT.trans (pf_let_eq e35)
    have hpr37 := r_leads_pr hV0 hn_pm_az hE24
    have htk38 : pm_tk V19 := hpr37.2.2.2.1
    refine pm_aload_n hC 0 (by decide) dX12_spanLine_16 rfl ?_
    refine pm_iconst (v := 1) hC dX12_spanLine_17 ?_
    refine pm_bipush (v := 60) hC dX12_spanLine_18 (by decide) ?_
    refine pm_callV (ci := 12) (as := [(0, 1), (0, 60)]) (st := []) hC 90 (fP_X12_number 1 60 ⟨by decide, by decide⟩ ⟨by decide, by decide⟩) lm_X12_179 li_X12_number (by decide) (by decide) rfl rfl rfl (by decide) rfl rfl (Nat.le_of_ble_eq_true rfl) ⟨Nat.le_refl _, Or.inl rfl⟩ dX12_spanLine_20 ⟨rfl, hV21, hg23, htk38⟩ (fun r39 V40 hp41 => ?_)
    obtain ⟨y42, rfl, b43, hV44, hF45, hg46, hg47, hE48⟩ := hp41
    replace hT := hT.trans (pf_call_eq hE48)
    change pm_J X 23 [(0, (3, 90)), (1, (0, 2))] [(0, y42)] 118 V40
    have hF49 := pm_fs.tr hF25 hF45 (by decide) (by decide)
    have e50 : V40 90 1 = y1 := by rw [hF45.2 1 (by decide)]; exact e26
    have e51 : V40 90 10 = 95 := by rw [hF45.2 10 (by decide)]; exact e27
    obtain ⟨y52, e53⟩ : ∃ y, V40 90 2 = y := ⟨_, rfl⟩
    have b54 := hV44.get 90 2 (lo := 0) (hi := 500) (by decide) (by decide) rfl
    rw [e53] at b54
    replace hT := hT.trans (pf_let_eq e53)
    obtain ⟨y55, e56⟩ : ∃ y, V40 90 3 = y := ⟨_, rfl⟩
    have b57 := hV44.get 90 3 (lo := 0) (hi := 4) (by decide) (by decide) rfl
    rw [e56] at b57
    replace hT := hT.trans (pf_let_eq e56)
    obtain ⟨y58, e59⟩ : ∃ y, V40 90 4 = y := ⟨_, rfl⟩
    have b60 := hV44.get 90 4 (lo := 0) (hi := 500) (by decide) (by decide) rfl
    rw [e59] at b60
    replace hT := hT.trans (pf_let_eq e59)
    obtain ⟨y61, e62⟩ : ∃ y, V40 90 37 = y := ⟨_, rfl⟩
    have b63 := hV44.get 90 37 (lo := (-2147483648)) (hi := 2147483647) (by decide) (by decide) rfl
    rw [e62] at b63
    replace hT := hT.trans (pf_let_eq e62)
    refine pm_if_ne (tgt := 28) hC ⟨by omega, by omega⟩ dX12_spanLine_23 (by decide) (fun c64 => ?_) (fun c64 => ?_)
    · skip
      replace hT := hT.trans (if_pos c64)
      refine pm_aload_n hC 0 (by decide) dX12_spanLine_28 rfl ?_
      refine pm_getf (v := y61) hC 90 fl_X12_151 rfl rfl (by decide) rfl e62 dX12_spanLine_29 ?_
      refine pm_istore_n (lv' := [(2, (0, y61)), (0, (3, 90)), (1, (0, 2))]) hC dX12_spanLine_32 (by decide) rfl ?_
      refine pm_aload_n hC 1 (by decide) dX12_spanLine_33 rfl ?_
      refine pm_iconst (v := 0) hC dX12_spanLine_34 ?_
      refine pm_bipush (v := 9) hC dX12_spanLine_35 (by decide) ?_
      refine pm_callV (ci := 12) (as := [(0, 0), (0, 9)]) (st := []) hC 90 (fP_X12_number 0 9 ⟨by decide, by decide⟩ ⟨by decide, by decide⟩) lm_X12_179 li_X12_number (by decide) (by decide) rfl rfl rfl (by decide) rfl rfl (Nat.le_of_ble_eq_true rfl) ⟨Nat.le_refl _, Or.inl rfl⟩ dX12_spanLine_37 ⟨rfl, hV44, hg46, hg47⟩ (fun r65 V66 hp67 => ?_)
      obtain ⟨y68, rfl, b69, hV70, hF71, hg72, hg73, hE74⟩ := hp67
      replace hT := hT.trans (pf_call_eq hE74)
      change pm_J X 40 [(2, (0, y61)), (0, (3, 90)), (1, (0, 2))] [(0, y68)] 118 V66
      have hF75 := pm_fs.tr hF49 hF71 (by decide) (by decide)
      have e76 : V66 90 1 = y1 := by rw [hF71.2 1 (by decide)]; exact e50
      have e77 : V66 90 10 = 95 := by rw [hF71.2 10 (by decide)]; exact e51
      obtain ⟨y78, e79⟩ : ∃ y, V66 90 2 = y := ⟨_, rfl⟩
      have b80 := hV70.get 90 2 (lo := 0) (hi := 500) (by decide) (by decide) rfl
      rw [e79] at b80
      replace hT := hT.trans (pf_let_eq e79)
      obtain ⟨y81, e82⟩ : ∃ y, V66 90 3 = y := ⟨_, rfl⟩
      have b83 := hV70.get 90 3 (lo := 0) (hi := 4) (by decide) (by decide) rfl
      rw [e82] at b83
      replace hT := hT.trans (pf_let_eq e82)
      obtain ⟨y84, e85⟩ : ∃ y, V66 90 4 = y := ⟨_, rfl⟩
      have b86 := hV70.get 90 4 (lo := 0) (hi := 500) (by decide) (by decide) rfl
      rw [e85] at b86
      replace hT := hT.trans (pf_let_eq e85)
      obtain ⟨y87, e88⟩ : ∃ y, V66 90 37 = y := ⟨_, rfl⟩
      have b89 := hV70.get 90 37 (lo := (-2147483648)) (hi := 2147483647) (by decide) (by decide) rfl
      rw [e88] at b89
      replace hT := hT.trans (pf_let_eq e88)
      refine pm_if_ne (tgt := 45) hC ⟨by omega, by omega⟩ dX12_spanLine_40 (by decide) (fun c90 => ?_) (fun c90 => ?_)
      · skip
        replace hT := hT.trans (if_pos c90)
        refine pm_aload_n hC 1 (by decide) dX12_spanLine_45 rfl ?_
        refine pm_getf (v := 95) hC 90 fl_X12_25 rfl rfl (by decide) rfl e77 dX12_spanLine_46 ?_
        refine pm_iload_n hC 2 dX12_spanLine_49 rfl ?_
        refine pm_iload_n hC 0 dX12_spanLine_50 rfl ?_
        refine pm_iastore (len := 4) hC 95 rfl rfl (by decide) ⟨by decide, by decide⟩ (by decide) dX12_spanLine_51 ?_
        refine pm_aload_n hC 1 (by decide) dX12_spanLine_52 rfl ?_
        refine pm_getf (v := 95) hC 90 fl_X12_25 rfl rfl (by decide) rfl e77 dX12_spanLine_53 ?_
        refine pm_iload_n hC 2 dX12_spanLine_56 rfl ?_
        refine pm_iconst (v := 1) hC dX12_spanLine_57 ?_
        refine pm_iadd hC dX12_spanLine_58 ?_
        change pm_J X 59 [(2, (0, y61)), (0, (3, 90)), (1, (0, 2))] [(0, 3), (3, 95)] 118 (pm_up V66 95 (2 : Int).toNat y61)
        refine pm_aload_n hC 1 (by decide) dX12_spanLine_59 rfl ?_
        refine pm_getf (v := y87) hC 90 fl_X12_151 rfl rfl (by decide) rfl e88 dX12_spanLine_60 ?_
        refine pm_iastore (len := 4) hC 95 rfl rfl (by decide) ⟨by decide, by decide⟩ (by decide) dX12_spanLine_63 ?_
        refine pm_aload_n hC 1 (by decide) dX12_spanLine_64 rfl ?_
        have hV93 := ((hV70.put 95 (2 : Int).toNat (x := y61) (lo := (-1)) (hi := 60) ((pm_qe_r (tb := pm_qP) (k := 95) (i := (2 : Int).toNat) (m := 4) (r := 2) (l := [(-1, 60, 0), (0, 9, 0), (-1, 60, 0), (0, 9, 0)]) rfl rfl (by omega)).trans rfl) ⟨by omega, by omega⟩).put 95 (3 : Int).toNat (x := y87) (lo := 0) (hi := 9) ((pm_qe_r (tb := pm_qP) (k := 95) (i := (3 : Int).toNat) (m := 4) (r := 3) (l := [(-1, 60, 0), (0, 9, 0), (-1, 60, 0), (0, 9, 0)]) rfl rfl (by omega)).trans rfl) ⟨by omega, by omega⟩)
        have hF94 := ((hF75.up 95 (2 : Int).toNat y61 (by decide) rfl).up 95 (3 : Int).toNat y87 (by decide) rfl)
        obtain ⟨V91, hv92⟩ : ∃ V, V = (pm_up (pm_up V66 95 (2 : Int).toNat y61) 95 (3 : Int).toNat y87) := ⟨_, rfl⟩
        rw [← hv92] at hV93 hF94
        rw [← hv92]
        replace hT := hT.trans (pf_let_eq hv92.symm)
        have e95 : V91 90 1 = y1 := by rw [hv92]; exact e76
        have e96 : V91 90 10 = 95 := by rw [hv92]; exact e77
        have e97 : V91 90 2 = y78 := by rw [hv92]; exact e79
        have e98 : V91 90 3 = y81 := by rw [hv92]; exact e82
        have e99 : V91 90 4 = y84 := by rw [hv92]; exact e85
        have e100 : V91 90 37 = y87 := by rw [hv92]; exact e88
        have hp101 : pm_az V91 := by rw [hv92]; exact (pm_az.fr hg72 rfl rfl)
        have hp102 : pm_tk V91 := by rw [hv92]; exact (pm_tk.fr hg73 rfl rfl rfl)
        refine pm_callV (ci := 12) (as := []) (st := []) hC 90 fP_X12_closes lm_X12_183 li_X12_closes (by decide) (by decide) rfl rfl rfl (by decide) rfl rfl (Nat.le_of_ble_eq_true rfl) ⟨Nat.le_refl _, Or.inl rfl⟩ dX12_spanLine_65 ⟨rfl, hV93, hp101, hp102⟩ (fun r103 V104 hp105 => ?_)
        obtain ⟨y106, rfl, b107, hV108, hF109, hg110, hg111, hE112⟩ := hp105
        replace hT := hT.trans (pf_call_eq hE112)
        change pm_J X 68 [(2, (0, y61)), (0, (3, 90)), (1, (0, 2))] [(0, y106)] 118 V104
        have hF113 := pm_fs.tr hF94 hF109 (by decide) (by decide)
        have e114 : V104 90 1 = y1 := by rw [hF109.2 1 (by decide)]; exact e95
        have e115 : V104 90 10 = 95 := by rw [hF109.2 10 (by decide)]; exact e96
        have e116 : V104 90 37 = y87 := by rw [hF109.2 37 (by decide)]; exact e100
        obtain ⟨y117, e118⟩ : ∃ y, V104 90 2 = y := ⟨_, rfl⟩
        have b119 := hV108.get 90 2 (lo := 0) (hi := 500) (by decide) (by decide) rfl
        rw [e118] at b119
        replace hT := hT.trans (pf_let_eq e118)
        obtain ⟨y120, e121⟩ : ∃ y, V104 90 3 = y := ⟨_, rfl⟩
        have b122 := hV108.get 90 3 (lo := 0) (hi := 4) (by decide) (by decide) rfl
        rw [e121] at b122
        replace hT := hT.trans (pf_let_eq e121)
        obtain ⟨y123, e124⟩ : ∃ y, V104 90 4 = y := ⟨_, rfl⟩
        have b125 := hV108.get 90 4 (lo := 0) (hi := 500) (by decide) (by decide) rfl
        rw [e124] at b125
        replace hT := hT.trans (pf_let_eq e124)
        exact pm_iret hC hR (pm_narZ (by omega)) ⟨y106, rfl, ⟨by omega, by omega, by omega, by omega⟩, hV108, hF113, hg110, hg111, hT⟩ dX12_spanLine_68
      · skip
        replace hT := hT.trans (if_neg (fun q => q c90))
        refine pm_iconst (v := 0) hC dX12_spanLine_43 ?_
        exact pm_iret hC hR (pm_narZ (by omega)) ⟨0, rfl, ⟨by omega, by omega, by omega, by omega⟩, hV70, hF75, hg72, hg73, hT⟩ dX12_spanLine_44
    · skip
      replace hT := hT.trans (if_neg (fun q => q c64))
      refine pm_iconst (v := 0) hC dX12_spanLine_26 ?_
      exact pm_iret hC hR (pm_narZ (by omega)) ⟨0, rfl, ⟨by omega, by omega, by omega, by omega⟩, hV44, hF49, hg46, hg47, hT⟩ dX12_spanLine_27
  · skip
    replace hT := hT.trans (if_neg c11)
    refine pm_iconst (v := 0) hC dX12_spanLine_10 ?_
    obtain ⟨y126, e127⟩ : ∃ y, V0 90 3 = y := ⟨_, rfl⟩
    have b128 := hV0.get 90 3 (lo := 0) (hi := 4) (by decide) (by decide) rfl
    rw [e127] at b128
    replace hT := hT.trans (pf_let_eq e127)
    obtain ⟨y129, e130⟩ : ∃ y, V0 90 4 = y := ⟨_, rfl⟩
    have b131 := hV0.get 90 4 (lo := 0) (hi := 500) (by decide) (by decide) rfl
    rw [e130] at b131
    replace hT := hT.trans (pf_let_eq e130)
    exact pm_iret hC hR (pm_narZ (by omega)) ⟨0, rfl, ⟨by omega, by omega, by omega, by omega⟩, hV0, (pm_fs.rf (cs := [95]) (fs := [2, 3, 4, 5, 37]) (V := V0)), hn_pm_az, hn_pm_tk, hT⟩ dX12_spanLine_11
set_option maxHeartbeats 4000000 in
set_option maxRecDepth 100000 in
theorem fP_X12_spanLine_d0  : pm_K 4 yX12_spanLine cX12_spanLine 3 (some .boolean) (fun av V => av = [(3, 90), (0, 0)] ∧ pm_oq pm_qP V ∧ pm_az V ∧ pm_tk V) (fun _ V r V' => ∃ y, r = some (0, y) ∧ (0 ≤ y ∧ y ≤ 1 ∧ (y = 1 → V' 90 3 ≤ 5 * (V' 90 2 - V 90 2)) ∧ (V 90 2 ≤ V' 90 2)) ∧ pm_oq pm_qP V' ∧ pm_fs [95] [2, 3, 4, 5, 37] V V' ∧ pm_az V' ∧ pm_tk V' ∧ F_X12_spanLine_d0  V = (y, V')) := by
  refine pm_MT.of (by decide) ⟨Nat.le_refl _, by decide⟩ (fun av V h => by rw [h.1]; exact (by decide : pm_words [(3, 0), (0, 0)] ≤ 3)) ?_
  rintro X av V0 hC - hR ⟨rfl, hV0, hn_pm_az, hn_pm_tk⟩
  change pm_J X 0 [(0, (3, 90)), (1, (0, 0))] [] 118 V0
  have hT := F_X12_spanLine_d0_eq  V0
  obtain ⟨y1, e2⟩ : ∃ y, V0 90 1 = y := ⟨_, rfl⟩
  have b3 := hV0.get 90 1 (lo := 0) (hi := 500) (by decide) (by decide) rfl
  rw [e2] at b3
  replace hT := hT.trans (pf_let_eq e2)
  obtain ⟨y4, e5⟩ : ∃ y, V0 90 2 = y := ⟨_, rfl⟩
  have b6 := hV0.get 90 2 (lo := 0) (hi := 500) (by decide) (by decide) rfl
  rw [e5] at b6
  replace hT := hT.trans (pf_let_eq e5)
  have hsz := hn_pm_az
  unfold pm_az at hsz
  rw [e5, e2] at hsz
  refine pm_aload_n hC 0 (by decide) dX12_spanLine_0 rfl ?_
  have e7 : V0 90 10 = 95 := hV0.one 90 10 (by decide) (by decide) rfl
  refine pm_getf (v := 95) hC 90 fl_X12_25 rfl rfl (by decide) rfl e7 dX12_spanLine_1 ?_
  refine pm_iload_n hC 1 dX12_spanLine_4 rfl ?_
  obtain ⟨y8, e9⟩ : ∃ y, V0 95 (0 : Int).toNat = y := ⟨_, rfl⟩
  replace hT := hT.trans (pf_let_eq e9)
  have b10 := hV0.get 95 (0 : Int).toNat (lo := (-1)) (hi := 60) (t := 0) (by decide) (show _ < 4 by omega) rfl
  rw [e9] at b10
  refine pm_iaload (len := 4) (v := y8) hC 95 rfl rfl (by decide) ⟨by decide, by decide⟩ (by decide) e9 dX12_spanLine_5 ?_
  refine pm_iconst (v := (-1)) hC dX12_spanLine_6 ?_
  refine pm_icmp_eq (tgt := 12) hC ⟨by omega, by omega⟩ ⟨by decide, by decide⟩ dX12_spanLine_7 (by decide) (fun c11 => ?_) (fun c11 => ?_)
  · skip
    replace hT := hT.trans (if_pos c11)
    refine pm_aload_n hC 0 (by decide) dX12_spanLine_12 rfl ?_
    obtain ⟨y12, e13⟩ : ∃ y, V0 90 3 = y := ⟨_, rfl⟩
    have b14 := hV0.get 90 3 (lo := 0) (hi := 4) (by decide) (by decide) rfl
    rw [e13] at b14
    replace hT := hT.trans (pf_let_eq e13)
    obtain ⟨y15, e16⟩ : ∃ y, V0 90 4 = y := ⟨_, rfl⟩
    have b17 := hV0.get 90 4 (lo := 0) (hi := 500) (by decide) (by decide) rfl
    rw [e16] at b17
    replace hT := hT.trans (pf_let_eq e16)
    refine pm_callV (ci := 12) (as := []) (st := []) hC 90 fP_X12_leads lm_X12_148 li_X12_leads (by decide) (by decide) rfl rfl rfl (by decide) rfl rfl (Nat.le_of_ble_eq_true rfl) ⟨Nat.le_refl _, Or.inl rfl⟩ dX12_spanLine_13 ⟨rfl, hV0, hn_pm_az⟩ (fun r18 V19 hp20 => ?_)
    obtain ⟨rfl, hV21, hF22, hg23, hE24⟩ := hp20
    replace hT := hT.trans (pf_call_eq hE24)
    change pm_J X 16 [(0, (3, 90)), (1, (0, 0))] [] 118 V19
    have hF25 := pm_fs.tr (pm_fs.rf (cs := [95]) (fs := [2, 3, 4, 5, 37]) (V := V0)) hF22 (by decide) (by decide)
    have e26 : V19 90 1 = y1 := by rw [hF22.2 1 (by decide)]; exact e2
    have e27 : V19 90 10 = 95 := by rw [hF22.2 10 (by decide)]; exact e7
    obtain ⟨y28, e29⟩ : ∃ y, V19 90 2 = y := ⟨_, rfl⟩
    have b30 := hV21.get 90 2 (lo := 0) (hi := 500) (by decide) (by decide) rfl
    rw [e29] at b30
    replace hT := hT.trans (pf_let_eq e29)
    obtain ⟨y31, e32⟩ : ∃ y, V19 90 3 = y := ⟨_, rfl⟩
    have b33 := hV21.get 90 3 (lo := 0) (hi := 4) (by decide) (by decide) rfl
    rw [e32] at b33
    replace hT := hT.trans (pf_let_eq e32)
    obtain ⟨y34, e35⟩ : ∃ y, V19 90 4 = y := ⟨_, rfl⟩
    have b36 := hV21.get 90 4 (lo := 0) (hi := 500) (by decide) (by decide) rfl
    rw [e35] at b36
    replace hT := hT.trans (pf_let_eq e35)
    have hpr37 := r_leads_pr hV0 hn_pm_az hE24
    have htk38 : pm_tk V19 := hpr37.2.2.2.1
    refine pm_aload_n hC 0 (by decide) dX12_spanLine_16 rfl ?_
    refine pm_iconst (v := 1) hC dX12_spanLine_17 ?_
    refine pm_bipush (v := 60) hC dX12_spanLine_18 (by decide) ?_
    refine pm_callV (ci := 12) (as := [(0, 1), (0, 60)]) (st := []) hC 90 (fP_X12_number 1 60 ⟨by decide, by decide⟩ ⟨by decide, by decide⟩) lm_X12_179 li_X12_number (by decide) (by decide) rfl rfl rfl (by decide) rfl rfl (Nat.le_of_ble_eq_true rfl) ⟨Nat.le_refl _, Or.inl rfl⟩ dX12_spanLine_20 ⟨rfl, hV21, hg23, htk38⟩ (fun r39 V40 hp41 => ?_)
    obtain ⟨y42, rfl, b43, hV44, hF45, hg46, hg47, hE48⟩ := hp41
    replace hT := hT.trans (pf_call_eq hE48)
    change pm_J X 23 [(0, (3, 90)), (1, (0, 0))] [(0, y42)] 118 V40
    have hF49 := pm_fs.tr hF25 hF45 (by decide) (by decide)
    have e50 : V40 90 1 = y1 := by rw [hF45.2 1 (by decide)]; exact e26
    have e51 : V40 90 10 = 95 := by rw [hF45.2 10 (by decide)]; exact e27
    obtain ⟨y52, e53⟩ : ∃ y, V40 90 2 = y := ⟨_, rfl⟩
    have b54 := hV44.get 90 2 (lo := 0) (hi := 500) (by decide) (by decide) rfl
    rw [e53] at b54
    replace hT := hT.trans (pf_let_eq e53)
    obtain ⟨y55, e56⟩ : ∃ y, V40 90 3 = y := ⟨_, rfl⟩
    have b57 := hV44.get 90 3 (lo := 0) (hi := 4) (by decide) (by decide) rfl
    rw [e56] at b57
    replace hT := hT.trans (pf_let_eq e56)
    obtain ⟨y58, e59⟩ : ∃ y, V40 90 4 = y := ⟨_, rfl⟩
    have b60 := hV44.get 90 4 (lo := 0) (hi := 500) (by decide) (by decide) rfl
    rw [e59] at b60
    replace hT := hT.trans (pf_let_eq e59)
    obtain ⟨y61, e62⟩ : ∃ y, V40 90 37 = y := ⟨_, rfl⟩
    have b63 := hV44.get 90 37 (lo := (-2147483648)) (hi := 2147483647) (by decide) (by decide) rfl
    rw [e62] at b63
    replace hT := hT.trans (pf_let_eq e62)
    refine pm_if_ne (tgt := 28) hC ⟨by omega, by omega⟩ dX12_spanLine_23 (by decide) (fun c64 => ?_) (fun c64 => ?_)
    · skip
      replace hT := hT.trans (if_pos c64)
      refine pm_aload_n hC 0 (by decide) dX12_spanLine_28 rfl ?_
      refine pm_getf (v := y61) hC 90 fl_X12_151 rfl rfl (by decide) rfl e62 dX12_spanLine_29 ?_
      refine pm_istore_n (lv' := [(2, (0, y61)), (0, (3, 90)), (1, (0, 0))]) hC dX12_spanLine_32 (by decide) rfl ?_
      refine pm_aload_n hC 1 (by decide) dX12_spanLine_33 rfl ?_
      refine pm_iconst (v := 0) hC dX12_spanLine_34 ?_
      refine pm_bipush (v := 9) hC dX12_spanLine_35 (by decide) ?_
      refine pm_callV (ci := 12) (as := [(0, 0), (0, 9)]) (st := []) hC 90 (fP_X12_number 0 9 ⟨by decide, by decide⟩ ⟨by decide, by decide⟩) lm_X12_179 li_X12_number (by decide) (by decide) rfl rfl rfl (by decide) rfl rfl (Nat.le_of_ble_eq_true rfl) ⟨Nat.le_refl _, Or.inl rfl⟩ dX12_spanLine_37 ⟨rfl, hV44, hg46, hg47⟩ (fun r65 V66 hp67 => ?_)
      obtain ⟨y68, rfl, b69, hV70, hF71, hg72, hg73, hE74⟩ := hp67
      replace hT := hT.trans (pf_call_eq hE74)
      change pm_J X 40 [(2, (0, y61)), (0, (3, 90)), (1, (0, 0))] [(0, y68)] 118 V66
      have hF75 := pm_fs.tr hF49 hF71 (by decide) (by decide)
      have e76 : V66 90 1 = y1 := by rw [hF71.2 1 (by decide)]; exact e50
      have e77 : V66 90 10 = 95 := by rw [hF71.2 10 (by decide)]; exact e51
      obtain ⟨y78, e79⟩ : ∃ y, V66 90 2 = y := ⟨_, rfl⟩
      have b80 := hV70.get 90 2 (lo := 0) (hi := 500) (by decide) (by decide) rfl
      rw [e79] at b80
      replace hT := hT.trans (pf_let_eq e79)
      obtain ⟨y81, e82⟩ : ∃ y, V66 90 3 = y := ⟨_, rfl⟩
      have b83 := hV70.get 90 3 (lo := 0) (hi := 4) (by decide) (by decide) rfl
      rw [e82] at b83
      replace hT := hT.trans (pf_let_eq e82)
      obtain ⟨y84, e85⟩ : ∃ y, V66 90 4 = y := ⟨_, rfl⟩
      have b86 := hV70.get 90 4 (lo := 0) (hi := 500) (by decide) (by decide) rfl
      rw [e85] at b86
      replace hT := hT.trans (pf_let_eq e85)
      obtain ⟨y87, e88⟩ : ∃ y, V66 90 37 = y := ⟨_, rfl⟩
      have b89 := hV70.get 90 37 (lo := (-2147483648)) (hi := 2147483647) (by decide) (by decide) rfl
      rw [e88] at b89
      replace hT := hT.trans (pf_let_eq e88)
      refine pm_if_ne (tgt := 45) hC ⟨by omega, by omega⟩ dX12_spanLine_40 (by decide) (fun c90 => ?_) (fun c90 => ?_)
      · skip
        replace hT := hT.trans (if_pos c90)
        refine pm_aload_n hC 1 (by decide) dX12_spanLine_45 rfl ?_
        refine pm_getf (v := 95) hC 90 fl_X12_25 rfl rfl (by decide) rfl e77 dX12_spanLine_46 ?_
        refine pm_iload_n hC 2 dX12_spanLine_49 rfl ?_
        refine pm_iload_n hC 0 dX12_spanLine_50 rfl ?_
        refine pm_iastore (len := 4) hC 95 rfl rfl (by decide) ⟨by decide, by decide⟩ (by decide) dX12_spanLine_51 ?_
        refine pm_aload_n hC 1 (by decide) dX12_spanLine_52 rfl ?_
        refine pm_getf (v := 95) hC 90 fl_X12_25 rfl rfl (by decide) rfl e77 dX12_spanLine_53 ?_
        refine pm_iload_n hC 2 dX12_spanLine_56 rfl ?_
        refine pm_iconst (v := 1) hC dX12_spanLine_57 ?_
        refine pm_iadd hC dX12_spanLine_58 ?_
        change pm_J X 59 [(2, (0, y61)), (0, (3, 90)), (1, (0, 0))] [(0, 1), (3, 95)] 118 (pm_up V66 95 (0 : Int).toNat y61)
        refine pm_aload_n hC 1 (by decide) dX12_spanLine_59 rfl ?_
        refine pm_getf (v := y87) hC 90 fl_X12_151 rfl rfl (by decide) rfl e88 dX12_spanLine_60 ?_
        refine pm_iastore (len := 4) hC 95 rfl rfl (by decide) ⟨by decide, by decide⟩ (by decide) dX12_spanLine_63 ?_
        refine pm_aload_n hC 1 (by decide) dX12_spanLine_64 rfl ?_
        have hV93 := ((hV70.put 95 (0 : Int).toNat (x := y61) (lo := (-1)) (hi := 60) ((pm_qe_r (tb := pm_qP) (k := 95) (i := (0 : Int).toNat) (m := 4) (r := 0) (l := [(-1, 60, 0), (0, 9, 0), (-1, 60, 0), (0, 9, 0)]) rfl rfl (by omega)).trans rfl) ⟨by omega, by omega⟩).put 95 (1 : Int).toNat (x := y87) (lo := 0) (hi := 9) ((pm_qe_r (tb := pm_qP) (k := 95) (i := (1 : Int).toNat) (m := 4) (r := 1) (l := [(-1, 60, 0), (0, 9, 0), (-1, 60, 0), (0, 9, 0)]) rfl rfl (by omega)).trans rfl) ⟨by omega, by omega⟩)
        have hF94 := ((hF75.up 95 (0 : Int).toNat y61 (by decide) rfl).up 95 (1 : Int).toNat y87 (by decide) rfl)
        obtain ⟨V91, hv92⟩ : ∃ V, V = (pm_up (pm_up V66 95 (0 : Int).toNat y61) 95 (1 : Int).toNat y87) := ⟨_, rfl⟩
        rw [← hv92] at hV93 hF94
        rw [← hv92]
        replace hT := hT.trans (pf_let_eq hv92.symm)
        have e95 : V91 90 1 = y1 := by rw [hv92]; exact e76
        have e96 : V91 90 10 = 95 := by rw [hv92]; exact e77
        have e97 : V91 90 2 = y78 := by rw [hv92]; exact e79
        have e98 : V91 90 3 = y81 := by rw [hv92]; exact e82
        have e99 : V91 90 4 = y84 := by rw [hv92]; exact e85
        have e100 : V91 90 37 = y87 := by rw [hv92]; exact e88
        have hp101 : pm_az V91 := by rw [hv92]; exact (pm_az.fr hg72 rfl rfl)
        have hp102 : pm_tk V91 := by rw [hv92]; exact (pm_tk.fr hg73 rfl rfl rfl)
        refine pm_callV (ci := 12) (as := []) (st := []) hC 90 fP_X12_closes lm_X12_183 li_X12_closes (by decide) (by decide) rfl rfl rfl (by decide) rfl rfl (Nat.le_of_ble_eq_true rfl) ⟨Nat.le_refl _, Or.inl rfl⟩ dX12_spanLine_65 ⟨rfl, hV93, hp101, hp102⟩ (fun r103 V104 hp105 => ?_)
        obtain ⟨y106, rfl, b107, hV108, hF109, hg110, hg111, hE112⟩ := hp105
        replace hT := hT.trans (pf_call_eq hE112)
        change pm_J X 68 [(2, (0, y61)), (0, (3, 90)), (1, (0, 0))] [(0, y106)] 118 V104
        have hF113 := pm_fs.tr hF94 hF109 (by decide) (by decide)
        have e114 : V104 90 1 = y1 := by rw [hF109.2 1 (by decide)]; exact e95
        have e115 : V104 90 10 = 95 := by rw [hF109.2 10 (by decide)]; exact e96
        have e116 : V104 90 37 = y87 := by rw [hF109.2 37 (by decide)]; exact e100
        obtain ⟨y117, e118⟩ : ∃ y, V104 90 2 = y := ⟨_, rfl⟩
        have b119 := hV108.get 90 2 (lo := 0) (hi := 500) (by decide) (by decide) rfl
        rw [e118] at b119
        replace hT := hT.trans (pf_let_eq e118)
        obtain ⟨y120, e121⟩ : ∃ y, V104 90 3 = y := ⟨_, rfl⟩
        have b122 := hV108.get 90 3 (lo := 0) (hi := 4) (by decide) (by decide) rfl
        rw [e121] at b122
        replace hT := hT.trans (pf_let_eq e121)
        obtain ⟨y123, e124⟩ : ∃ y, V104 90 4 = y := ⟨_, rfl⟩
        have b125 := hV108.get 90 4 (lo := 0) (hi := 500) (by decide) (by decide) rfl
        rw [e124] at b125
        replace hT := hT.trans (pf_let_eq e124)
        exact pm_iret hC hR (pm_narZ (by omega)) ⟨y106, rfl, ⟨by omega, by omega, by omega, by omega⟩, hV108, hF113, hg110, hg111, hT⟩ dX12_spanLine_68
      · skip
        replace hT := hT.trans (if_neg (fun q => q c90))
        refine pm_iconst (v := 0) hC dX12_spanLine_43 ?_
        exact pm_iret hC hR (pm_narZ (by omega)) ⟨0, rfl, ⟨by omega, by omega, by omega, by omega⟩, hV70, hF75, hg72, hg73, hT⟩ dX12_spanLine_44
    · skip
      replace hT := hT.trans (if_neg (fun q => q c64))
      refine pm_iconst (v := 0) hC dX12_spanLine_26 ?_
      exact pm_iret hC hR (pm_narZ (by omega)) ⟨0, rfl, ⟨by omega, by omega, by omega, by omega⟩, hV44, hF49, hg46, hg47, hT⟩ dX12_spanLine_27
  · skip
    replace hT := hT.trans (if_neg c11)
    refine pm_iconst (v := 0) hC dX12_spanLine_10 ?_
    obtain ⟨y126, e127⟩ : ∃ y, V0 90 3 = y := ⟨_, rfl⟩
    have b128 := hV0.get 90 3 (lo := 0) (hi := 4) (by decide) (by decide) rfl
    rw [e127] at b128
    replace hT := hT.trans (pf_let_eq e127)
    obtain ⟨y129, e130⟩ : ∃ y, V0 90 4 = y := ⟨_, rfl⟩
    have b131 := hV0.get 90 4 (lo := 0) (hi := 500) (by decide) (by decide) rfl
    rw [e130] at b131
    replace hT := hT.trans (pf_let_eq e130)
    exact pm_iret hC hR (pm_narZ (by omega)) ⟨0, rfl, ⟨by omega, by omega, by omega, by omega⟩, hV0, (pm_fs.rf (cs := [95]) (fs := [2, 3, 4, 5, 37]) (V := V0)), hn_pm_az, hn_pm_tk, hT⟩ dX12_spanLine_11
set_option maxHeartbeats 4000000 in
set_option maxRecDepth 100000 in
theorem fP_X12_soundLine  : pm_K 8 yX12_soundLine cX12_soundLine 5 (some .boolean) (fun av V => av = [(3, 90)] ∧ pm_oq pm_qP V ∧ pm_az V ∧ pm_tk V) (fun _ V r V' => ∃ y, r = some (0, y) ∧ (0 ≤ y ∧ y ≤ 1 ∧ (y = 1 → V' 90 3 ≤ 5 * (V' 90 2 - V 90 2)) ∧ (V 90 2 ≤ V' 90 2)) ∧ pm_oq pm_qP V' ∧ pm_fs [92, 93, 94] [2, 3, 4, 5, 6, 37] V V' ∧ pm_az V' ∧ pm_tk V' ∧ F_X12_soundLine  V = (y, V')) := by
  refine pm_MT.of (by decide) ⟨Nat.le_refl _, by decide⟩ (fun av V h => by rw [h.1]; exact (by decide : pm_words [(3, 0)] ≤ 5)) ?_
  rintro X av V0 hC - hR ⟨rfl, hV0, hn_pm_az, hn_pm_tk⟩
  change pm_J X 0 [(0, (3, 90))] [] 118 V0
  have hT := F_X12_soundLine_eq  V0
  obtain ⟨y1, e2⟩ : ∃ y, V0 90 1 = y := ⟨_, rfl⟩
  have b3 := hV0.get 90 1 (lo := 0) (hi := 500) (by decide) (by decide) rfl
  rw [e2] at b3
  replace hT := hT.trans (pf_let_eq e2)
  obtain ⟨y4, e5⟩ : ∃ y, V0 90 2 = y := ⟨_, rfl⟩
  have b6 := hV0.get 90 2 (lo := 0) (hi := 500) (by decide) (by decide) rfl
  rw [e5] at b6
  replace hT := hT.trans (pf_let_eq e5)
  have hsz := hn_pm_az
  unfold pm_az at hsz
  rw [e5, e2] at hsz
  refine pm_aload_n hC 0 (by decide) dX12_soundLine_0 rfl ?_
  obtain ⟨y7, e8⟩ : ∃ y, V0 90 6 = y := ⟨_, rfl⟩
  have b9 := hV0.get 90 6 (lo := 0) (hi := 9) (by decide) (by decide) rfl
  rw [e8] at b9
  replace hT := hT.trans (pf_let_eq e8)
  refine pm_getf (v := y7) hC 90 fl_X12_169 rfl rfl (by decide) rfl e8 dX12_soundLine_1 ?_
  refine pm_bipush (v := 9) hC dX12_soundLine_4 (by decide) ?_
  refine pm_icmp_ne (tgt := 11) hC ⟨by omega, by omega⟩ ⟨by decide, by decide⟩ dX12_soundLine_6 (by decide) (fun c10 => ?_) (fun c10 => ?_)
  · skip
    replace hT := hT.trans (if_pos c10)
    refine pm_aload_n hC 0 (by decide) dX12_soundLine_11 rfl ?_
    obtain ⟨y11, e12⟩ : ∃ y, V0 90 3 = y := ⟨_, rfl⟩
    have b13 := hV0.get 90 3 (lo := 0) (hi := 4) (by decide) (by decide) rfl
    rw [e12] at b13
    replace hT := hT.trans (pf_let_eq e12)
    obtain ⟨y14, e15⟩ : ∃ y, V0 90 4 = y := ⟨_, rfl⟩
    have b16 := hV0.get 90 4 (lo := 0) (hi := 500) (by decide) (by decide) rfl
    rw [e15] at b16
    replace hT := hT.trans (pf_let_eq e15)
    refine pm_callV (ci := 12) (as := []) (st := []) hC 90 fP_X12_leads lm_X12_148 li_X12_leads (by decide) (by decide) rfl rfl rfl (by decide) rfl rfl (Nat.le_of_ble_eq_true rfl) ⟨Nat.le_refl _, Or.inl rfl⟩ dX12_soundLine_12 ⟨rfl, hV0, hn_pm_az⟩ (fun r17 V18 hp19 => ?_)
    obtain ⟨rfl, hV20, hF21, hg22, hE23⟩ := hp19
    replace hT := hT.trans (pf_call_eq hE23)
    change pm_J X 15 [(0, (3, 90))] [] 118 V18
    have hF24 := pm_fs.tr (pm_fs.rf (cs := [92, 93, 94]) (fs := [2, 3, 4, 5, 6, 37]) (V := V0)) hF21 (by decide) (by decide)
    have e25 : V18 90 1 = y1 := by rw [hF21.2 1 (by decide)]; exact e2
    have e26 : V18 90 6 = y7 := by rw [hF21.2 6 (by decide)]; exact e8
    obtain ⟨y27, e28⟩ : ∃ y, V18 90 2 = y := ⟨_, rfl⟩
    have b29 := hV20.get 90 2 (lo := 0) (hi := 500) (by decide) (by decide) rfl
    rw [e28] at b29
    replace hT := hT.trans (pf_let_eq e28)
    obtain ⟨y30, e31⟩ : ∃ y, V18 90 3 = y := ⟨_, rfl⟩
    have b32 := hV20.get 90 3 (lo := 0) (hi := 4) (by decide) (by decide) rfl
    rw [e31] at b32
    replace hT := hT.trans (pf_let_eq e31)
    obtain ⟨y33, e34⟩ : ∃ y, V18 90 4 = y := ⟨_, rfl⟩
    have b35 := hV20.get 90 4 (lo := 0) (hi := 500) (by decide) (by decide) rfl
    rw [e34] at b35
    replace hT := hT.trans (pf_let_eq e34)
    have hpr36 := r_leads_pr hV0 hn_pm_az hE23
    have htk37 : pm_tk V18 := hpr36.2.2.2.1
    refine pm_aload_n hC 0 (by decide) dX12_soundLine_15 rfl ?_
    refine pm_callV (ci := 12) (as := []) (st := []) hC 90 fP_X12_isName lm_X12_172 li_X12_isName (by decide) (by decide) rfl rfl rfl (by decide) rfl rfl (Nat.le_of_ble_eq_true rfl) ⟨Nat.le_refl _, Or.inl rfl⟩ dX12_soundLine_16 ⟨rfl, hV20⟩ (fun r38 V39 hp40 => ?_)
    obtain ⟨y41, rfl, b42, rfl, hE43⟩ := hp40
    replace hT := hT.trans (pf_call_eq hE43)
    change pm_J X 19 [(0, (3, 90))] [(0, y41)] 118 V18
    refine pm_if_eq (tgt := 30) hC ⟨by omega, by omega⟩ dX12_soundLine_19 (by decide) (fun c44 => ?_) (fun c44 => ?_)
    · skip
      replace hT := hT.trans (if_pos c44)
      refine pm_iconst (v := 0) hC dX12_soundLine_30 ?_
      exact pm_iret hC hR (pm_narZ (by omega)) ⟨0, rfl, ⟨by omega, by omega, by omega, by omega⟩, hV20, hF24, hg22, htk37, hT⟩ dX12_soundLine_31
    · skip
      replace hT := hT.trans (if_neg c44)
      refine pm_aload_n hC 0 (by decide) dX12_soundLine_22 rfl ?_
      refine pm_callV (ci := 12) (as := []) (st := []) hC 90 fP_X12_named lm_X12_176 li_X12_named (by decide) (by decide) rfl rfl rfl (by decide) rfl rfl (Nat.le_of_ble_eq_true rfl) ⟨Nat.le_refl _, Or.inl rfl⟩ dX12_soundLine_23 ⟨rfl, hV20⟩ (fun r45 V46 hp47 => ?_)
      obtain ⟨y48, rfl, b49, rfl, hE50⟩ := hp47
      replace hT := hT.trans (pf_call_eq hE50)
      change pm_J X 26 [(0, (3, 90))] [(0, y48)] 118 V18
      refine pm_iconst (v := (-1)) hC dX12_soundLine_26 ?_
      refine pm_icmp_eq (tgt := 32) hC ⟨by omega, by omega⟩ ⟨by decide, by decide⟩ dX12_soundLine_27 (by decide) (fun c51 => ?_) (fun c51 => ?_)
      · skip
        replace hT := hT.trans (if_pos c51)
        refine pm_aload_n hC 0 (by decide) dX12_soundLine_32 rfl ?_
        obtain ⟨y52, e53⟩ : ∃ y, V18 90 5 = y := ⟨_, rfl⟩
        have b54 := hV20.get 90 5 (lo := (-9223372036854775808)) (hi := 9223372036854775807) (by decide) (by decide) rfl
        rw [e53] at b54
        replace hT := hT.trans (pf_let_eq e53)
        refine pm_getf (v := y52) hC 90 fl_X12_108 rfl rfl (by decide) rfl e53 dX12_soundLine_33 ?_
        refine pm_lstore_n (lv' := [(1, (1, y52)), (0, (3, 90))]) hC dX12_soundLine_36 (by decide) rfl ?_
        refine pm_aload_n hC 1 (by decide) dX12_soundLine_37 rfl ?_
        refine pm_callV (ci := 12) (as := []) (st := []) hC 90 fP_X12_leads lm_X12_148 li_X12_leads (by decide) (by decide) rfl rfl rfl (by decide) rfl rfl (Nat.le_of_ble_eq_true rfl) ⟨Nat.le_refl _, Or.inl rfl⟩ dX12_soundLine_38 ⟨rfl, hV20, hg22⟩ (fun r55 V56 hp57 => ?_)
        obtain ⟨rfl, hV58, hF59, hg60, hE61⟩ := hp57
        replace hT := hT.trans (pf_call_eq hE61)
        change pm_J X 41 [(1, (1, y52)), (0, (3, 90))] [] 118 V56
        have hF62 := pm_fs.tr hF24 hF59 (by decide) (by decide)
        have e63 : V56 90 1 = y1 := by rw [hF59.2 1 (by decide)]; exact e25
        have e64 : V56 90 6 = y7 := by rw [hF59.2 6 (by decide)]; exact e26
        obtain ⟨y65, e66⟩ : ∃ y, V56 90 2 = y := ⟨_, rfl⟩
        have b67 := hV58.get 90 2 (lo := 0) (hi := 500) (by decide) (by decide) rfl
        rw [e66] at b67
        replace hT := hT.trans (pf_let_eq e66)
        obtain ⟨y68, e69⟩ : ∃ y, V56 90 3 = y := ⟨_, rfl⟩
        have b70 := hV58.get 90 3 (lo := 0) (hi := 4) (by decide) (by decide) rfl
        rw [e69] at b70
        replace hT := hT.trans (pf_let_eq e69)
        obtain ⟨y71, e72⟩ : ∃ y, V56 90 4 = y := ⟨_, rfl⟩
        have b73 := hV58.get 90 4 (lo := 0) (hi := 500) (by decide) (by decide) rfl
        rw [e72] at b73
        replace hT := hT.trans (pf_let_eq e72)
        have hpr74 := r_leads_pr hV20 hg22 hE61
        have htk75 : pm_tk V56 := hpr74.2.2.2.1
        refine pm_aload_n hC 1 (by decide) dX12_soundLine_41 rfl ?_
        refine pm_iconst (v := 0) hC dX12_soundLine_42 ?_
        refine pm_bipush (v := 99) hC dX12_soundLine_43 (by decide) ?_
        refine pm_callV (ci := 12) (as := [(0, 0), (0, 99)]) (st := []) hC 90 (fP_X12_number 0 99 ⟨by decide, by decide⟩ ⟨by decide, by decide⟩) lm_X12_179 li_X12_number (by decide) (by decide) rfl rfl rfl (by decide) rfl rfl (Nat.le_of_ble_eq_true rfl) ⟨Nat.le_refl _, Or.inl rfl⟩ dX12_soundLine_45 ⟨rfl, hV58, hg60, htk75⟩ (fun r76 V77 hp78 => ?_)
        obtain ⟨y79, rfl, b80, hV81, hF82, hg83, hg84, hE85⟩ := hp78
        replace hT := hT.trans (pf_call_eq hE85)
        change pm_J X 48 [(1, (1, y52)), (0, (3, 90))] [(0, y79)] 118 V77
        have hF86 := pm_fs.tr hF62 hF82 (by decide) (by decide)
        have e87 : V77 90 1 = y1 := by rw [hF82.2 1 (by decide)]; exact e63
        have e88 : V77 90 6 = y7 := by rw [hF82.2 6 (by decide)]; exact e64
        obtain ⟨y89, e90⟩ : ∃ y, V77 90 2 = y := ⟨_, rfl⟩
        have b91 := hV81.get 90 2 (lo := 0) (hi := 500) (by decide) (by decide) rfl
        rw [e90] at b91
        replace hT := hT.trans (pf_let_eq e90)
        obtain ⟨y92, e93⟩ : ∃ y, V77 90 3 = y := ⟨_, rfl⟩
        have b94 := hV81.get 90 3 (lo := 0) (hi := 4) (by decide) (by decide) rfl
        rw [e93] at b94
        replace hT := hT.trans (pf_let_eq e93)
        obtain ⟨y95, e96⟩ : ∃ y, V77 90 4 = y := ⟨_, rfl⟩
        have b97 := hV81.get 90 4 (lo := 0) (hi := 500) (by decide) (by decide) rfl
        rw [e96] at b97
        replace hT := hT.trans (pf_let_eq e96)
        obtain ⟨y98, e99⟩ : ∃ y, V77 90 37 = y := ⟨_, rfl⟩
        have b100 := hV81.get 90 37 (lo := (-2147483648)) (hi := 2147483647) (by decide) (by decide) rfl
        rw [e99] at b100
        replace hT := hT.trans (pf_let_eq e99)
        refine pm_if_ne (tgt := 53) hC ⟨by omega, by omega⟩ dX12_soundLine_48 (by decide) (fun c101 => ?_) (fun c101 => ?_)
        · skip
          replace hT := hT.trans (if_pos c101)
          refine pm_aload_n hC 1 (by decide) dX12_soundLine_53 rfl ?_
          refine pm_getf (v := y98) hC 90 fl_X12_151 rfl rfl (by decide) rfl e99 dX12_soundLine_54 ?_
          refine pm_istore_n (lv' := [(3, (0, y98)), (1, (1, y52)), (0, (3, 90))]) hC dX12_soundLine_57 (by decide) rfl ?_
          refine pm_iconst (v := 0) hC dX12_soundLine_58 ?_
          refine pm_istore (lv' := [(4, (0, 0)), (3, (0, y98)), (1, (1, y52)), (0, (3, 90))]) hC dX12_soundLine_59 (by decide) rfl ?_
          obtain ⟨B104, hB105, hT⟩ := pf_loop hT
          have L107 : ∀ (N109 : Nat) (x102 : Int), (0 ≤ x102 ∧ x102 ≤ 9) → F_X12_soundLine  V0 = pf_val ((0 : Int), V0) B104 x102 → (Int.toNat (9 - x102)) = N109 → pm_J X 61 [(0, (3, 90)), (1, (1, y52)), (3, (0, y98)), (4, (0, x102))] [] 118 V77 := by
            intro N109
            induction N109 using Nat.strongRecOn with
            | _ N109 ih110 =>
            intro x102 b103 hT hm108
            have hb106 := congrFun hB105 x102
            refine pm_iload hC 3 dX12_soundLine_61 rfl ?_
            refine pm_aload_n hC 0 (by decide) dX12_soundLine_63 rfl ?_
            refine pm_getf (v := y7) hC 90 fl_X12_169 rfl rfl (by decide) rfl e88 dX12_soundLine_64 ?_
            refine pm_icmp_ge (tgt := 119) hC ⟨by omega, by omega⟩ ⟨by omega, by omega⟩ dX12_soundLine_67 (by decide) (fun c111 => ?_) (fun c111 => ?_)
            · skip
              replace hb106 := hb106.trans (if_pos c111)
              refine pm_aload_n hC 0 (by decide) dX12_soundLine_119 rfl ?_
              refine pm_iconst (v := 0) hC dX12_soundLine_120 ?_
              refine pm_bipush (v := 99) hC dX12_soundLine_121 (by decide) ?_
              refine pm_callV (ci := 12) (as := [(0, 0), (0, 99)]) (st := []) hC 90 (fP_X12_number 0 99 ⟨by decide, by decide⟩ ⟨by decide, by decide⟩) lm_X12_179 li_X12_number (by decide) (by decide) rfl rfl rfl (by decide) rfl rfl (Nat.le_of_ble_eq_true rfl) ⟨Nat.le_refl _, Or.inl rfl⟩ dX12_soundLine_123 ⟨rfl, hV81, hg83, hg84⟩ (fun r112 V113 hp114 => ?_)
              obtain ⟨y115, rfl, b116, hV117, hF118, hg119, hg120, hE121⟩ := hp114
              replace hb106 := hb106.trans (pf_call_eq hE121)
              change pm_J X 126 [(0, (3, 90)), (1, (1, y52)), (3, (0, y98)), (4, (0, x102))] [(0, y115)] 118 V113
              have hF122 := pm_fs.tr hF86 hF118 (by decide) (by decide)
              have e123 : V113 90 1 = y1 := by rw [hF118.2 1 (by decide)]; exact e87
              have e124 : V113 90 6 = y7 := by rw [hF118.2 6 (by decide)]; exact e88
              obtain ⟨y125, e126⟩ : ∃ y, V113 90 2 = y := ⟨_, rfl⟩
              have b127 := hV117.get 90 2 (lo := 0) (hi := 500) (by decide) (by decide) rfl
              rw [e126] at b127
              replace hb106 := hb106.trans (pf_let_eq e126)
              obtain ⟨y128, e129⟩ : ∃ y, V113 90 3 = y := ⟨_, rfl⟩
              have b130 := hV117.get 90 3 (lo := 0) (hi := 4) (by decide) (by decide) rfl
              rw [e129] at b130
              replace hb106 := hb106.trans (pf_let_eq e129)
              obtain ⟨y131, e132⟩ : ∃ y, V113 90 4 = y := ⟨_, rfl⟩
              have b133 := hV117.get 90 4 (lo := 0) (hi := 500) (by decide) (by decide) rfl
              rw [e132] at b133
              replace hb106 := hb106.trans (pf_let_eq e132)
              obtain ⟨y134, e135⟩ : ∃ y, V113 90 37 = y := ⟨_, rfl⟩
              have b136 := hV117.get 90 37 (lo := (-2147483648)) (hi := 2147483647) (by decide) (by decide) rfl
              rw [e135] at b136
              replace hb106 := hb106.trans (pf_let_eq e135)
              refine pm_if_ne (tgt := 131) hC ⟨by omega, by omega⟩ dX12_soundLine_126 (by decide) (fun c137 => ?_) (fun c137 => ?_)
              · skip
                replace hb106 := hb106.trans (if_pos c137)
                refine pm_aload_n hC 0 (by decide) dX12_soundLine_131 rfl ?_
                have e138 : V113 90 7 = 92 := hV117.one 90 7 (by decide) (by decide) rfl
                refine pm_getf (v := 92) hC 90 fl_X12_13 rfl rfl (by decide) rfl e138 dX12_soundLine_132 ?_
                refine pm_aload_n hC 0 (by decide) dX12_soundLine_135 rfl ?_
                refine pm_getf (v := y7) hC 90 fl_X12_169 rfl rfl (by decide) rfl e124 dX12_soundLine_136 ?_
                refine pm_lload_n hC 1 dX12_soundLine_139 rfl ?_
                refine pm_lastore (len := 9) hC 92 rfl rfl (by decide) ⟨by omega, by omega⟩ (by decide) dX12_soundLine_140 ?_
                refine pm_aload_n hC 0 (by decide) dX12_soundLine_141 rfl ?_
                have e139 : V113 90 8 = 93 := hV117.one 90 8 (by decide) (by decide) rfl
                refine pm_getf (v := 93) hC 90 fl_X12_17 rfl rfl (by decide) rfl e139 dX12_soundLine_142 ?_
                refine pm_iconst (v := 3) hC dX12_soundLine_145 ?_
                refine pm_aload_n hC 0 (by decide) dX12_soundLine_146 rfl ?_
                refine pm_getf (v := y7) hC 90 fl_X12_169 rfl rfl (by decide) rfl e124 dX12_soundLine_147 ?_
                refine pm_imul hC dX12_soundLine_150 ?_
                refine pm_iload_n hC 2 dX12_soundLine_151 rfl ?_
                refine pm_iastore (len := 27) hC 93 rfl rfl (by decide) ⟨by omega, by omega⟩ (by decide) dX12_soundLine_152 ?_
                refine pm_aload_n hC 0 (by decide) dX12_soundLine_153 rfl ?_
                refine pm_getf (v := 93) hC 90 fl_X12_17 rfl rfl (by decide) rfl e139 dX12_soundLine_154 ?_
                refine pm_iconst (v := 3) hC dX12_soundLine_157 ?_
                refine pm_aload_n hC 0 (by decide) dX12_soundLine_158 rfl ?_
                refine pm_getf (v := y7) hC 90 fl_X12_169 rfl rfl (by decide) rfl e124 dX12_soundLine_159 ?_
                refine pm_imul hC dX12_soundLine_162 ?_
                refine pm_iconst (v := 1) hC dX12_soundLine_163 ?_
                refine pm_iadd hC dX12_soundLine_164 ?_
                refine pm_aload_n hC 0 (by decide) dX12_soundLine_165 rfl ?_
                refine pm_getf (v := y134) hC 90 fl_X12_151 rfl rfl (by decide) rfl e135 dX12_soundLine_166 ?_
                refine pm_iastore (len := 27) hC 93 rfl rfl (by decide) ⟨by omega, by omega⟩ (by decide) dX12_soundLine_169 ?_
                refine pm_aload_n hC 0 (by decide) dX12_soundLine_170 rfl ?_
                refine pm_getf (v := 93) hC 90 fl_X12_17 rfl rfl (by decide) rfl e139 dX12_soundLine_171 ?_
                refine pm_iconst (v := 3) hC dX12_soundLine_174 ?_
                refine pm_aload_n hC 0 (by decide) dX12_soundLine_175 rfl ?_
                refine pm_getf (v := y7) hC 90 fl_X12_169 rfl rfl (by decide) rfl e124 dX12_soundLine_176 ?_
                refine pm_imul hC dX12_soundLine_179 ?_
                refine pm_iconst (v := 2) hC dX12_soundLine_180 ?_
                refine pm_iadd hC dX12_soundLine_181 ?_
                refine pm_iconst (v := 1) hC dX12_soundLine_182 ?_
                refine pm_iastore (len := 27) hC 93 rfl rfl (by decide) ⟨by omega, by omega⟩ (by decide) dX12_soundLine_183 ?_
                refine pm_aload_n hC 0 (by decide) dX12_soundLine_184 rfl ?_
                have e140 : V113 90 9 = 94 := hV117.one 90 9 (by decide) (by decide) rfl
                refine pm_getf (v := 94) hC 90 fl_X12_21 rfl rfl (by decide) rfl e140 dX12_soundLine_185 ?_
                refine pm_aload_n hC 0 (by decide) dX12_soundLine_188 rfl ?_
                refine pm_getf (v := y7) hC 90 fl_X12_169 rfl rfl (by decide) rfl e124 dX12_soundLine_189 ?_
                refine pm_iconst (v := 0) hC dX12_soundLine_192 ?_
                refine pm_zastore (len := 9) hC 94 rfl rfl (by decide) ⟨by omega, by omega⟩ (by decide) (by omega) dX12_soundLine_193 ?_
                refine pm_aload_n hC 0 (by decide) dX12_soundLine_194 rfl ?_
                refine pm_dup hC rfl dX12_soundLine_195 ?_
                refine pm_getf (v := y7) hC 90 fl_X12_169 rfl rfl (by decide) rfl e124 dX12_soundLine_196 ?_
                refine pm_iconst (v := 1) hC dX12_soundLine_199 ?_
                refine pm_iadd hC dX12_soundLine_200 ?_
                refine pm_putf hC 90 fl_X12_169 rfl rfl rfl (by decide) rfl trivial dX12_soundLine_201 ?_
                refine pm_aload_n hC 0 (by decide) dX12_soundLine_204 rfl ?_
                have hV143 := ((((((hV117.put 92 (y7 : Int).toNat (x := y52) (lo := (-9223372036854775808)) (hi := 9223372036854775807) rfl ⟨by omega, by omega⟩).put 93 ((3 * y7) : Int).toNat (x := y98) (lo := 0) (hi := 99) ((pm_qe_r (tb := pm_qP) (k := 93) (i := ((3 * y7) : Int).toNat) (m := 3) (r := 0) (l := [(0, 99, 0), (0, 99, 0), (0, 9, 0)]) rfl rfl (by omega)).trans rfl) ⟨by omega, by omega⟩).put 93 (((3 * y7) + 1) : Int).toNat (x := y134) (lo := 0) (hi := 99) ((pm_qe_r (tb := pm_qP) (k := 93) (i := (((3 * y7) + 1) : Int).toNat) (m := 3) (r := 1) (l := [(0, 99, 0), (0, 99, 0), (0, 9, 0)]) rfl rfl (by omega)).trans rfl) ⟨by omega, by omega⟩).put 93 (((3 * y7) + 2) : Int).toNat (x := 1) (lo := 0) (hi := 9) ((pm_qe_r (tb := pm_qP) (k := 93) (i := (((3 * y7) + 2) : Int).toNat) (m := 3) (r := 2) (l := [(0, 99, 0), (0, 99, 0), (0, 9, 0)]) rfl rfl (by omega)).trans rfl) ⟨by decide, by decide⟩).put 94 (y7 : Int).toNat (x := 0) (lo := 0) (hi := 1) rfl ⟨by decide, by decide⟩).put 90 6 (x := (y7 + 1)) (lo := 0) (hi := 9) rfl ⟨by omega, by omega⟩)
                have hF144 := ((((((hF122.up 92 (y7 : Int).toNat y52 (by decide) rfl).up 93 ((3 * y7) : Int).toNat y98 (by decide) rfl).up 93 (((3 * y7) + 1) : Int).toNat y134 (by decide) rfl).up 93 (((3 * y7) + 2) : Int).toNat 1 (by decide) rfl).up 94 (y7 : Int).toNat 0 (by decide) rfl).upf 6 (y7 + 1) rfl)
                obtain ⟨V141, hv142⟩ : ∃ V, V = (pm_up (pm_up (pm_up (pm_up (pm_up (pm_up V113 92 (y7 : Int).toNat y52) 93 ((3 * y7) : Int).toNat y98) 93 (((3 * y7) + 1) : Int).toNat y134) 93 (((3 * y7) + 2) : Int).toNat 1) 94 (y7 : Int).toNat 0) 90 6 (y7 + 1)) := ⟨_, rfl⟩
                rw [← hv142] at hV143 hF144
                rw [← hv142]
                replace hb106 := hb106.trans (pf_let_eq hv142.symm)
                have e145 : V141 90 1 = y1 := by rw [hv142]; exact e123
                have e146 : V141 90 2 = y125 := by rw [hv142]; exact e126
                have e147 : V141 90 3 = y128 := by rw [hv142]; exact e129
                have e148 : V141 90 4 = y131 := by rw [hv142]; exact e132
                have e149 : V141 90 37 = y134 := by rw [hv142]; exact e135
                have e150 : V141 90 7 = 92 := by rw [hv142]; exact e138
                have e151 : V141 90 8 = 93 := by rw [hv142]; exact e139
                have e152 : V141 90 9 = 94 := by rw [hv142]; exact e140
                have e153 : V141 90 6 = (y7 + 1) := by rw [hv142]; rfl
                have hp154 : pm_az V141 := by rw [hv142]; exact (pm_az.fr hg119 rfl rfl)
                have hp155 : pm_tk V141 := by rw [hv142]; exact (pm_tk.fr hg120 rfl rfl rfl)
                refine pm_callV (ci := 12) (as := []) (st := []) hC 90 fP_X12_closes lm_X12_183 li_X12_closes (by decide) (by decide) rfl rfl rfl (by decide) rfl rfl (Nat.le_of_ble_eq_true rfl) ⟨Nat.le_refl _, Or.inl rfl⟩ dX12_soundLine_205 ⟨rfl, hV143, hp154, hp155⟩ (fun r156 V157 hp158 => ?_)
                obtain ⟨y159, rfl, b160, hV161, hF162, hg163, hg164, hE165⟩ := hp158
                replace hb106 := hb106.trans (pf_call_eq hE165)
                change pm_J X 208 [(0, (3, 90)), (1, (1, y52)), (3, (0, y98)), (4, (0, x102))] [(0, y159)] 118 V157
                have hF166 := pm_fs.tr hF144 hF162 (by decide) (by decide)
                have e167 : V157 90 1 = y1 := by rw [hF162.2 1 (by decide)]; exact e145
                have e168 : V157 90 37 = y134 := by rw [hF162.2 37 (by decide)]; exact e149
                have e169 : V157 90 7 = 92 := by rw [hF162.2 7 (by decide)]; exact e150
                have e170 : V157 90 8 = 93 := by rw [hF162.2 8 (by decide)]; exact e151
                have e171 : V157 90 9 = 94 := by rw [hF162.2 9 (by decide)]; exact e152
                have e172 : V157 90 6 = (y7 + 1) := by rw [hF162.2 6 (by decide)]; exact e153
                obtain ⟨y173, e174⟩ : ∃ y, V157 90 2 = y := ⟨_, rfl⟩
                have b175 := hV161.get 90 2 (lo := 0) (hi := 500) (by decide) (by decide) rfl
                rw [e174] at b175
                replace hb106 := hb106.trans (pf_let_eq e174)
                obtain ⟨y176, e177⟩ : ∃ y, V157 90 3 = y := ⟨_, rfl⟩
                have b178 := hV161.get 90 3 (lo := 0) (hi := 4) (by decide) (by decide) rfl
                rw [e177] at b178
                replace hb106 := hb106.trans (pf_let_eq e177)
                obtain ⟨y179, e180⟩ : ∃ y, V157 90 4 = y := ⟨_, rfl⟩
                have b181 := hV161.get 90 4 (lo := 0) (hi := 500) (by decide) (by decide) rfl
                rw [e180] at b181
                replace hb106 := hb106.trans (pf_let_eq e180)
                have hT := hT.trans (pf_val_inr hb106)
                exact pm_iret hC hR (pm_narZ (by omega)) ⟨y159, rfl, ⟨by omega, by omega, by omega, by omega⟩, hV161, hF166, hg163, hg164, hT⟩ dX12_soundLine_208
              · skip
                replace hb106 := hb106.trans (if_neg (fun q => q c137))
                refine pm_iconst (v := 0) hC dX12_soundLine_129 ?_
                have hT := hT.trans (pf_val_inr hb106)
                exact pm_iret hC hR (pm_narZ (by omega)) ⟨0, rfl, ⟨by omega, by omega, by omega, by omega⟩, hV117, hF122, hg119, hg120, hT⟩ dX12_soundLine_130
            · skip
              replace hb106 := hb106.trans (if_neg (Int.not_le.mpr c111))
              refine pm_aload_n hC 0 (by decide) dX12_soundLine_70 rfl ?_
              refine pm_getf (v := y92) hC 90 fl_X12_112 rfl rfl (by decide) rfl e93 dX12_soundLine_71 ?_
              refine pm_iconst (v := 2) hC dX12_soundLine_74 ?_
              refine pm_icmp_ne (tgt := 113) hC ⟨by omega, by omega⟩ ⟨by decide, by decide⟩ dX12_soundLine_75 (by decide) (fun c182 => ?_) (fun c182 => ?_)
              · skip
                replace hb106 := hb106.trans (if_pos c182)
                obtain ⟨x183, ei184⟩ : ∃ y : Int, x102 + 1 = y := ⟨_, rfl⟩
                replace hb106 := hb106.trans (pf_let_eq ei184)
                refine pm_iinc (y := x183) (lv' := [(4, (0, x183)), (0, (3, 90)), (1, (1, y52)), (3, (0, y98))]) hC 3 dX12_soundLine_113 (by decide) rfl ei184 rfl ?_
                refine pm_goto (tgt := 61) hC dX12_soundLine_116 (by decide) ?_
                refine pm_lvsub [1, 2, 3, 0] (lv' := [(0, (3, 90)), (1, (1, y52)), (3, (0, y98)), (4, (0, x183))]) rfl ?_
                exact ih110 _ (by omega) x183 ⟨by omega, by omega⟩ (hT.trans (pf_val_inl hb106)) rfl
              · skip
                replace hb106 := hb106.trans (if_neg (fun q => q c182))
                refine pm_aload_n hC 0 (by decide) dX12_soundLine_78 rfl ?_
                have e185 : V77 90 8 = 93 := hV81.one 90 8 (by decide) (by decide) rfl
                refine pm_getf (v := 93) hC 90 fl_X12_17 rfl rfl (by decide) rfl e185 dX12_soundLine_79 ?_
                refine pm_iconst (v := 3) hC dX12_soundLine_82 ?_
                refine pm_iload hC 3 dX12_soundLine_83 rfl ?_
                refine pm_imul hC dX12_soundLine_85 ?_
                obtain ⟨y186, e187⟩ : ∃ y, V77 93 ((3 * x102) : Int).toNat = y := ⟨_, rfl⟩
                replace hb106 := hb106.trans (pf_let_eq e187)
                have b188 := hV81.get 93 ((3 * x102) : Int).toNat (lo := 0) (hi := 99) (t := 0) (by decide) (show _ < 27 by omega) ((pm_qe_r (tb := pm_qP) (k := 93) (i := ((3 * x102) : Int).toNat) (m := 3) (r := 0) (l := [(0, 99, 0), (0, 99, 0), (0, 9, 0)]) rfl rfl (by omega)).trans rfl)
                rw [e187] at b188
                refine pm_iaload (len := 27) (v := y186) hC 93 rfl rfl (by decide) ⟨by omega, by omega⟩ (by decide) e187 dX12_soundLine_86 ?_
                refine pm_iload_n hC 2 dX12_soundLine_87 rfl ?_
                refine pm_icmp_ne (tgt := 113) hC ⟨by omega, by omega⟩ ⟨by omega, by omega⟩ dX12_soundLine_88 (by decide) (fun c189 => ?_) (fun c189 => ?_)
                · skip
                  replace hb106 := hb106.trans (if_pos c189)
                  obtain ⟨x190, ei191⟩ : ∃ y : Int, x102 + 1 = y := ⟨_, rfl⟩
                  replace hb106 := hb106.trans (pf_let_eq ei191)
                  refine pm_iinc (y := x190) (lv' := [(4, (0, x190)), (0, (3, 90)), (1, (1, y52)), (3, (0, y98))]) hC 3 dX12_soundLine_113 (by decide) rfl ei191 rfl ?_
                  refine pm_goto (tgt := 61) hC dX12_soundLine_116 (by decide) ?_
                  refine pm_lvsub [1, 2, 3, 0] (lv' := [(0, (3, 90)), (1, (1, y52)), (3, (0, y98)), (4, (0, x190))]) rfl ?_
                  exact ih110 _ (by omega) x190 ⟨by omega, by omega⟩ (hT.trans (pf_val_inl hb106)) rfl
                · skip
                  replace hb106 := hb106.trans (if_neg (fun q => q c189))
                  refine pm_aload_n hC 0 (by decide) dX12_soundLine_91 rfl ?_
                  refine pm_getf (v := 93) hC 90 fl_X12_17 rfl rfl (by decide) rfl e185 dX12_soundLine_92 ?_
                  refine pm_iconst (v := 3) hC dX12_soundLine_95 ?_
                  refine pm_iload hC 3 dX12_soundLine_96 rfl ?_
                  refine pm_imul hC dX12_soundLine_98 ?_
                  refine pm_iconst (v := 1) hC dX12_soundLine_99 ?_
                  refine pm_iadd hC dX12_soundLine_100 ?_
                  obtain ⟨y192, e193⟩ : ∃ y, V77 93 (((3 * x102) + 1) : Int).toNat = y := ⟨_, rfl⟩
                  replace hb106 := hb106.trans (pf_let_eq e193)
                  have b194 := hV81.get 93 (((3 * x102) + 1) : Int).toNat (lo := 0) (hi := 99) (t := 0) (by decide) (show _ < 27 by omega) ((pm_qe_r (tb := pm_qP) (k := 93) (i := (((3 * x102) + 1) : Int).toNat) (m := 3) (r := 1) (l := [(0, 99, 0), (0, 99, 0), (0, 9, 0)]) rfl rfl (by omega)).trans rfl)
                  rw [e193] at b194
                  refine pm_iaload (len := 27) (v := y192) hC 93 rfl rfl (by decide) ⟨by omega, by omega⟩ (by decide) e193 dX12_soundLine_101 ?_
                  refine pm_i2l hC ⟨by omega, by omega⟩ dX12_soundLine_102 ?_
                  refine pm_aload_n hC 0 (by decide) dX12_soundLine_103 rfl ?_
                  obtain ⟨y195, e196⟩ : ∃ y, V77 90 5 = y := ⟨_, rfl⟩
                  have b197 := hV81.get 90 5 (lo := (-9223372036854775808)) (hi := 9223372036854775807) (by decide) (by decide) rfl
                  rw [e196] at b197
                  replace hb106 := hb106.trans (pf_let_eq e196)
                  refine pm_getf (v := y195) hC 90 fl_X12_108 rfl rfl (by decide) rfl e196 dX12_soundLine_104 ?_
                  refine pm_lcmp hC ⟨by omega, by omega⟩ ⟨by omega, by omega⟩ dX12_soundLine_107 (fun y198 b199 => ?_)
                  replace hb106 := hb106.trans (pf_let_eq (pm_cmp_u b199))
                  refine pm_if_ne (tgt := 113) hC ⟨by omega, by omega⟩ dX12_soundLine_108 (by decide) (fun c200 => ?_) (fun c200 => ?_)
                  · skip
                    replace hb106 := hb106.trans (if_pos c200)
                    obtain ⟨x201, ei202⟩ : ∃ y : Int, x102 + 1 = y := ⟨_, rfl⟩
                    replace hb106 := hb106.trans (pf_let_eq ei202)
                    refine pm_iinc (y := x201) (lv' := [(4, (0, x201)), (0, (3, 90)), (1, (1, y52)), (3, (0, y98))]) hC 3 dX12_soundLine_113 (by decide) rfl ei202 rfl ?_
                    refine pm_goto (tgt := 61) hC dX12_soundLine_116 (by decide) ?_
                    refine pm_lvsub [1, 2, 3, 0] (lv' := [(0, (3, 90)), (1, (1, y52)), (3, (0, y98)), (4, (0, x201))]) rfl ?_
                    exact ih110 _ (by omega) x201 ⟨by omega, by omega⟩ (hT.trans (pf_val_inl hb106)) rfl
                  · skip
                    replace hb106 := hb106.trans (if_neg (fun q => q c200))
                    refine pm_iconst (v := 0) hC dX12_soundLine_111 ?_
                    have hT := hT.trans (pf_val_inr hb106)
                    exact pm_iret hC hR (pm_narZ (by omega)) ⟨0, rfl, ⟨by omega, by omega, by omega, by omega⟩, hV81, hF86, hg83, hg84, hT⟩ dX12_soundLine_112
          refine pm_lvsub [3, 2, 1, 0] (lv' := [(0, (3, 90)), (1, (1, y52)), (3, (0, y98)), (4, (0, 0))]) rfl ?_
          exact L107 _ 0 ⟨by decide, by decide⟩ hT rfl
        · skip
          replace hT := hT.trans (if_neg (fun q => q c101))
          refine pm_iconst (v := 0) hC dX12_soundLine_51 ?_
          exact pm_iret hC hR (pm_narZ (by omega)) ⟨0, rfl, ⟨by omega, by omega, by omega, by omega⟩, hV81, hF86, hg83, hg84, hT⟩ dX12_soundLine_52
      · skip
        replace hT := hT.trans (if_neg c51)
        refine pm_iconst (v := 0) hC dX12_soundLine_30 ?_
        exact pm_iret hC hR (pm_narZ (by omega)) ⟨0, rfl, ⟨by omega, by omega, by omega, by omega⟩, hV20, hF24, hg22, htk37, hT⟩ dX12_soundLine_31
  · skip
    replace hT := hT.trans (if_neg (fun q => q c10))
    refine pm_iconst (v := 0) hC dX12_soundLine_9 ?_
    obtain ⟨y203, e204⟩ : ∃ y, V0 90 3 = y := ⟨_, rfl⟩
    have b205 := hV0.get 90 3 (lo := 0) (hi := 4) (by decide) (by decide) rfl
    rw [e204] at b205
    replace hT := hT.trans (pf_let_eq e204)
    obtain ⟨y206, e207⟩ : ∃ y, V0 90 4 = y := ⟨_, rfl⟩
    have b208 := hV0.get 90 4 (lo := 0) (hi := 500) (by decide) (by decide) rfl
    rw [e207] at b208
    replace hT := hT.trans (pf_let_eq e207)
    exact pm_iret hC hR (pm_narZ (by omega)) ⟨0, rfl, ⟨by omega, by omega, by omega, by omega⟩, hV0, (pm_fs.rf (cs := [92, 93, 94]) (fs := [2, 3, 4, 5, 6, 37]) (V := V0)), hn_pm_az, hn_pm_tk, hT⟩ dX12_soundLine_10
set_option maxHeartbeats 4000000 in
set_option maxRecDepth 100000 in
theorem fP_X12_sceneLine  : pm_K 9 yX12_sceneLine cX12_sceneLine 1 (some .boolean) (fun av V => av = [(3, 90)] ∧ pm_oq pm_qP V ∧ pm_az V ∧ pm_tk V) (fun _ V r V' => ∃ y, r = some (0, y) ∧ (0 ≤ y ∧ y ≤ 1 ∧ (y = 1 → V' 90 3 ≤ 5 * (V' 90 2 - V 90 2)) ∧ (V 90 2 ≤ V' 90 2)) ∧ pm_oq pm_qP V' ∧ pm_fs [92, 93, 94, 95, 96] [2, 3, 4, 5, 6, 11, 12, 13, 37] V V' ∧ pm_az V' ∧ pm_tk V' ∧ F_X12_sceneLine  V = (y, V')) := by
  refine pm_MT.of (by decide) ⟨Nat.le_refl _, by decide⟩ (fun av V h => by rw [h.1]; exact (by decide : pm_words [(3, 0)] ≤ 1)) ?_
  rintro X av V0 hC - hR ⟨rfl, hV0, hn_pm_az, hn_pm_tk⟩
  change pm_J X 0 [(0, (3, 90))] [] 118 V0
  have hT := F_X12_sceneLine_eq  V0
  obtain ⟨y1, e2⟩ : ∃ y, V0 90 1 = y := ⟨_, rfl⟩
  have b3 := hV0.get 90 1 (lo := 0) (hi := 500) (by decide) (by decide) rfl
  rw [e2] at b3
  replace hT := hT.trans (pf_let_eq e2)
  obtain ⟨y4, e5⟩ : ∃ y, V0 90 2 = y := ⟨_, rfl⟩
  have b6 := hV0.get 90 2 (lo := 0) (hi := 500) (by decide) (by decide) rfl
  rw [e5] at b6
  replace hT := hT.trans (pf_let_eq e5)
  have hsz := hn_pm_az
  unfold pm_az at hsz
  rw [e5, e2] at hsz
  refine pm_aload_n hC 0 (by decide) dX12_sceneLine_0 rfl ?_
  refine pm_ldcS (tx := "sound") (q := 0) hC (by decide) dX12_sceneLine_1 ?_
  change pm_J X 3 [(0, (3, 90))] [(4, 0), (3, 90)] 118 V0
  obtain ⟨y7, e8⟩ : ∃ y, V0 90 3 = y := ⟨_, rfl⟩
  have b9 := hV0.get 90 3 (lo := 0) (hi := 4) (by decide) (by decide) rfl
  rw [e8] at b9
  replace hT := hT.trans (pf_let_eq e8)
  refine pm_callV (ci := 12) (as := [(4, 0)]) (st := []) hC 90 (fP_X12_isWord 0 ⟨by decide, by decide⟩) lm_X12_156 li_X12_isWord (by decide) (by decide) rfl rfl rfl (by decide) rfl rfl (Nat.le_of_ble_eq_true rfl) ⟨Nat.le_refl _, Or.inl rfl⟩ dX12_sceneLine_3 ⟨rfl, hV0⟩ (fun r10 V11 hp12 => ?_)
  obtain ⟨y13, rfl, b14, rfl, hE15⟩ := hp12
  replace hT := hT.trans (pf_call_eq hE15)
  change pm_J X 6 [(0, (3, 90))] [(0, y13)] 118 V0
  refine pm_if_eq (tgt := 14) hC ⟨by omega, by omega⟩ dX12_sceneLine_6 (by decide) (fun c16 => ?_) (fun c16 => ?_)
  · skip
    replace hT := hT.trans (if_pos c16)
    refine pm_aload_n hC 0 (by decide) dX12_sceneLine_14 rfl ?_
    refine pm_ldcS (tx := "voice") (q := 1) hC (by decide) dX12_sceneLine_15 ?_
    change pm_J X 17 [(0, (3, 90))] [(4, 1), (3, 90)] 118 V0
    refine pm_callV (ci := 12) (as := [(4, 1)]) (st := []) hC 90 (fP_X12_isWord 1 ⟨by decide, by decide⟩) lm_X12_156 li_X12_isWord (by decide) (by decide) rfl rfl rfl (by decide) rfl rfl (Nat.le_of_ble_eq_true rfl) ⟨Nat.le_refl _, Or.inl rfl⟩ dX12_sceneLine_17 ⟨rfl, hV0⟩ (fun r17 V18 hp19 => ?_)
    obtain ⟨y20, rfl, b21, rfl, hE22⟩ := hp19
    replace hT := hT.trans (pf_call_eq hE22)
    change pm_J X 20 [(0, (3, 90))] [(0, y20)] 118 V0
    refine pm_if_eq (tgt := 29) hC ⟨by omega, by omega⟩ dX12_sceneLine_20 (by decide) (fun c23 => ?_) (fun c23 => ?_)
    · skip
      replace hT := hT.trans (if_pos c23)
      refine pm_aload_n hC 0 (by decide) dX12_sceneLine_29 rfl ?_
      refine pm_ldcS (tx := "face") (q := 2) hC (by decide) dX12_sceneLine_30 ?_
      change pm_J X 32 [(0, (3, 90))] [(4, 2), (3, 90)] 118 V0
      refine pm_callV (ci := 12) (as := [(4, 2)]) (st := []) hC 90 (fP_X12_isWord 2 ⟨by decide, by decide⟩) lm_X12_156 li_X12_isWord (by decide) (by decide) rfl rfl rfl (by decide) rfl rfl (Nat.le_of_ble_eq_true rfl) ⟨Nat.le_refl _, Or.inl rfl⟩ dX12_sceneLine_32 ⟨rfl, hV0⟩ (fun r24 V25 hp26 => ?_)
      obtain ⟨y27, rfl, b28, rfl, hE29⟩ := hp26
      replace hT := hT.trans (pf_call_eq hE29)
      change pm_J X 35 [(0, (3, 90))] [(0, y27)] 118 V0
      refine pm_if_eq (tgt := 44) hC ⟨by omega, by omega⟩ dX12_sceneLine_35 (by decide) (fun c30 => ?_) (fun c30 => ?_)
      · skip
        replace hT := hT.trans (if_pos c30)
        refine pm_aload_n hC 0 (by decide) dX12_sceneLine_44 rfl ?_
        refine pm_ldcS (tx := "odds") (q := 3) hC (by decide) dX12_sceneLine_45 ?_
        change pm_J X 47 [(0, (3, 90))] [(4, 3), (3, 90)] 118 V0
        refine pm_callV (ci := 12) (as := [(4, 3)]) (st := []) hC 90 (fP_X12_isWord 3 ⟨by decide, by decide⟩) lm_X12_156 li_X12_isWord (by decide) (by decide) rfl rfl rfl (by decide) rfl rfl (Nat.le_of_ble_eq_true rfl) ⟨Nat.le_refl _, Or.inl rfl⟩ dX12_sceneLine_47 ⟨rfl, hV0⟩ (fun r31 V32 hp33 => ?_)
        obtain ⟨y34, rfl, b35, rfl, hE36⟩ := hp33
        replace hT := hT.trans (pf_call_eq hE36)
        change pm_J X 50 [(0, (3, 90))] [(0, y34)] 118 V0
        refine pm_if_eq (tgt := 58) hC ⟨by omega, by omega⟩ dX12_sceneLine_50 (by decide) (fun c37 => ?_) (fun c37 => ?_)
        · skip
          replace hT := hT.trans (if_pos c37)
          refine pm_aload_n hC 0 (by decide) dX12_sceneLine_58 rfl ?_
          refine pm_ldcS (tx := "hold") (q := 4) hC (by decide) dX12_sceneLine_59 ?_
          change pm_J X 61 [(0, (3, 90))] [(4, 4), (3, 90)] 118 V0
          refine pm_callV (ci := 12) (as := [(4, 4)]) (st := []) hC 90 (fP_X12_isWord 4 ⟨by decide, by decide⟩) lm_X12_156 li_X12_isWord (by decide) (by decide) rfl rfl rfl (by decide) rfl rfl (Nat.le_of_ble_eq_true rfl) ⟨Nat.le_refl _, Or.inl rfl⟩ dX12_sceneLine_61 ⟨rfl, hV0⟩ (fun r38 V39 hp40 => ?_)
          obtain ⟨y41, rfl, b42, rfl, hE43⟩ := hp40
          replace hT := hT.trans (pf_call_eq hE43)
          change pm_J X 64 [(0, (3, 90))] [(0, y41)] 118 V0
          refine pm_if_eq (tgt := 72) hC ⟨by omega, by omega⟩ dX12_sceneLine_64 (by decide) (fun c44 => ?_) (fun c44 => ?_)
          · skip
            replace hT := hT.trans (if_pos c44)
            refine pm_aload_n hC 0 (by decide) dX12_sceneLine_72 rfl ?_
            refine pm_ldcS (tx := "learn") (q := 5) hC (by decide) dX12_sceneLine_73 ?_
            change pm_J X 75 [(0, (3, 90))] [(4, 5), (3, 90)] 118 V0
            refine pm_callV (ci := 12) (as := [(4, 5)]) (st := []) hC 90 (fP_X12_isWord 5 ⟨by decide, by decide⟩) lm_X12_156 li_X12_isWord (by decide) (by decide) rfl rfl rfl (by decide) rfl rfl (Nat.le_of_ble_eq_true rfl) ⟨Nat.le_refl _, Or.inl rfl⟩ dX12_sceneLine_75 ⟨rfl, hV0⟩ (fun r45 V46 hp47 => ?_)
            obtain ⟨y48, rfl, b49, rfl, hE50⟩ := hp47
            replace hT := hT.trans (pf_call_eq hE50)
            change pm_J X 78 [(0, (3, 90))] [(0, y48)] 118 V0
            refine pm_if_eq (tgt := 92) hC ⟨by omega, by omega⟩ dX12_sceneLine_78 (by decide) (fun c51 => ?_) (fun c51 => ?_)
            · skip
              replace hT := hT.trans (if_pos c51)
              refine pm_iconst (v := 0) hC dX12_sceneLine_92 ?_
              obtain ⟨y52, e53⟩ : ∃ y, V0 90 4 = y := ⟨_, rfl⟩
              have b54 := hV0.get 90 4 (lo := 0) (hi := 500) (by decide) (by decide) rfl
              rw [e53] at b54
              replace hT := hT.trans (pf_let_eq e53)
              exact pm_iret hC hR (pm_narZ (by omega)) ⟨0, rfl, ⟨by omega, by omega, by omega, by omega⟩, hV0, (pm_fs.rf (cs := [92, 93, 94, 95, 96]) (fs := [2, 3, 4, 5, 6, 11, 12, 13, 37]) (V := V0)), hn_pm_az, hn_pm_tk, hT⟩ dX12_sceneLine_93
            · skip
              replace hT := hT.trans (if_neg c51)
              refine pm_aload_n hC 0 (by decide) dX12_sceneLine_81 rfl ?_
              obtain ⟨y55, e56⟩ : ∃ y, V0 90 4 = y := ⟨_, rfl⟩
              have b57 := hV0.get 90 4 (lo := 0) (hi := 500) (by decide) (by decide) rfl
              rw [e56] at b57
              replace hT := hT.trans (pf_let_eq e56)
              refine pm_callV (ci := 12) (as := []) (st := []) hC 90 fP_X12_learnLine lm_X12_207 li_X12_learnLine (by decide) (by decide) rfl rfl rfl (by decide) rfl rfl (Nat.le_of_ble_eq_true rfl) ⟨Nat.le_refl _, Or.inl rfl⟩ dX12_sceneLine_82 ⟨rfl, hV0, hn_pm_az, hn_pm_tk⟩ (fun r58 V59 hp60 => ?_)
              obtain ⟨y61, rfl, b62, hV63, hF64, hg65, hg66, hE67⟩ := hp60
              replace hT := hT.trans (pf_call_eq hE67)
              change pm_J X 85 [(0, (3, 90))] [(0, y61)] 118 V59
              have hF68 := pm_fs.tr (pm_fs.rf (cs := [92, 93, 94, 95, 96]) (fs := [2, 3, 4, 5, 6, 11, 12, 13, 37]) (V := V0)) hF64 (by decide) (by decide)
              have e69 : V59 90 1 = y1 := by rw [hF64.2 1 (by decide)]; exact e2
              obtain ⟨y70, e71⟩ : ∃ y, V59 90 2 = y := ⟨_, rfl⟩
              have b72 := hV63.get 90 2 (lo := 0) (hi := 500) (by decide) (by decide) rfl
              rw [e71] at b72
              replace hT := hT.trans (pf_let_eq e71)
              obtain ⟨y73, e74⟩ : ∃ y, V59 90 3 = y := ⟨_, rfl⟩
              have b75 := hV63.get 90 3 (lo := 0) (hi := 4) (by decide) (by decide) rfl
              rw [e74] at b75
              replace hT := hT.trans (pf_let_eq e74)
              obtain ⟨y76, e77⟩ : ∃ y, V59 90 4 = y := ⟨_, rfl⟩
              have b78 := hV63.get 90 4 (lo := 0) (hi := 500) (by decide) (by decide) rfl
              rw [e77] at b78
              replace hT := hT.trans (pf_let_eq e77)
              refine pm_if_eq (tgt := 92) hC ⟨by omega, by omega⟩ dX12_sceneLine_85 (by decide) (fun c79 => ?_) (fun c79 => ?_)
              · skip
                replace hT := hT.trans (if_pos c79)
                refine pm_iconst (v := 0) hC dX12_sceneLine_92 ?_
                exact pm_iret hC hR (pm_narZ (by omega)) ⟨0, rfl, ⟨by omega, by omega, by omega, by omega⟩, hV63, hF68, hg65, hg66, hT⟩ dX12_sceneLine_93
              · skip
                replace hT := hT.trans (if_neg c79)
                refine pm_iconst (v := 1) hC dX12_sceneLine_88 ?_
                refine pm_goto (tgt := 93) hC dX12_sceneLine_89 (by decide) ?_
                exact pm_iret hC hR (pm_narZ (by omega)) ⟨1, rfl, ⟨by omega, by omega, by omega, by omega⟩, hV63, hF68, hg65, hg66, hT⟩ dX12_sceneLine_93
          · skip
            replace hT := hT.trans (if_neg c44)
            refine pm_aload_n hC 0 (by decide) dX12_sceneLine_67 rfl ?_
            obtain ⟨y80, e81⟩ : ∃ y, V0 90 4 = y := ⟨_, rfl⟩
            have b82 := hV0.get 90 4 (lo := 0) (hi := 500) (by decide) (by decide) rfl
            rw [e81] at b82
            replace hT := hT.trans (pf_let_eq e81)
            refine pm_callV (ci := 12) (as := []) (st := []) hC 90 fP_X12_holdLine lm_X12_204 li_X12_holdLine (by decide) (by decide) rfl rfl rfl (by decide) rfl rfl (Nat.le_of_ble_eq_true rfl) ⟨Nat.le_refl _, Or.inl rfl⟩ dX12_sceneLine_68 ⟨rfl, hV0, hn_pm_az, hn_pm_tk⟩ (fun r83 V84 hp85 => ?_)
            obtain ⟨y86, rfl, b87, hV88, hF89, hg90, hg91, hE92⟩ := hp85
            replace hT := hT.trans (pf_call_eq hE92)
            change pm_J X 71 [(0, (3, 90))] [(0, y86)] 118 V84
            have hF93 := pm_fs.tr (pm_fs.rf (cs := [92, 93, 94, 95, 96]) (fs := [2, 3, 4, 5, 6, 11, 12, 13, 37]) (V := V0)) hF89 (by decide) (by decide)
            have e94 : V84 90 1 = y1 := by rw [hF89.2 1 (by decide)]; exact e2
            obtain ⟨y95, e96⟩ : ∃ y, V84 90 2 = y := ⟨_, rfl⟩
            have b97 := hV88.get 90 2 (lo := 0) (hi := 500) (by decide) (by decide) rfl
            rw [e96] at b97
            replace hT := hT.trans (pf_let_eq e96)
            obtain ⟨y98, e99⟩ : ∃ y, V84 90 3 = y := ⟨_, rfl⟩
            have b100 := hV88.get 90 3 (lo := 0) (hi := 4) (by decide) (by decide) rfl
            rw [e99] at b100
            replace hT := hT.trans (pf_let_eq e99)
            obtain ⟨y101, e102⟩ : ∃ y, V84 90 4 = y := ⟨_, rfl⟩
            have b103 := hV88.get 90 4 (lo := 0) (hi := 500) (by decide) (by decide) rfl
            rw [e102] at b103
            replace hT := hT.trans (pf_let_eq e102)
            exact pm_iret hC hR (pm_narZ (by omega)) ⟨y86, rfl, ⟨by omega, by omega, by omega, by omega⟩, hV88, hF93, hg90, hg91, hT⟩ dX12_sceneLine_71
        · skip
          replace hT := hT.trans (if_neg c37)
          refine pm_aload_n hC 0 (by decide) dX12_sceneLine_53 rfl ?_
          obtain ⟨y104, e105⟩ : ∃ y, V0 90 4 = y := ⟨_, rfl⟩
          have b106 := hV0.get 90 4 (lo := 0) (hi := 500) (by decide) (by decide) rfl
          rw [e105] at b106
          replace hT := hT.trans (pf_let_eq e105)
          refine pm_callV (ci := 12) (as := []) (st := []) hC 90 fP_X12_oddsLine lm_X12_201 li_X12_oddsLine (by decide) (by decide) rfl rfl rfl (by decide) rfl rfl (Nat.le_of_ble_eq_true rfl) ⟨Nat.le_refl _, Or.inl rfl⟩ dX12_sceneLine_54 ⟨rfl, hV0, hn_pm_az, hn_pm_tk⟩ (fun r107 V108 hp109 => ?_)
          obtain ⟨y110, rfl, b111, hV112, hF113, hg114, hg115, hE116⟩ := hp109
          replace hT := hT.trans (pf_call_eq hE116)
          change pm_J X 57 [(0, (3, 90))] [(0, y110)] 118 V108
          have hF117 := pm_fs.tr (pm_fs.rf (cs := [92, 93, 94, 95, 96]) (fs := [2, 3, 4, 5, 6, 11, 12, 13, 37]) (V := V0)) hF113 (by decide) (by decide)
          have e118 : V108 90 1 = y1 := by rw [hF113.2 1 (by decide)]; exact e2
          obtain ⟨y119, e120⟩ : ∃ y, V108 90 2 = y := ⟨_, rfl⟩
          have b121 := hV112.get 90 2 (lo := 0) (hi := 500) (by decide) (by decide) rfl
          rw [e120] at b121
          replace hT := hT.trans (pf_let_eq e120)
          obtain ⟨y122, e123⟩ : ∃ y, V108 90 3 = y := ⟨_, rfl⟩
          have b124 := hV112.get 90 3 (lo := 0) (hi := 4) (by decide) (by decide) rfl
          rw [e123] at b124
          replace hT := hT.trans (pf_let_eq e123)
          obtain ⟨y125, e126⟩ : ∃ y, V108 90 4 = y := ⟨_, rfl⟩
          have b127 := hV112.get 90 4 (lo := 0) (hi := 500) (by decide) (by decide) rfl
          rw [e126] at b127
          replace hT := hT.trans (pf_let_eq e126)
          exact pm_iret hC hR (pm_narZ (by omega)) ⟨y110, rfl, ⟨by omega, by omega, by omega, by omega⟩, hV112, hF117, hg114, hg115, hT⟩ dX12_sceneLine_57
      · skip
        replace hT := hT.trans (if_neg c30)
        refine pm_aload_n hC 0 (by decide) dX12_sceneLine_38 rfl ?_
        refine pm_iconst (v := 2) hC dX12_sceneLine_39 ?_
        obtain ⟨y128, e129⟩ : ∃ y, V0 90 4 = y := ⟨_, rfl⟩
        have b130 := hV0.get 90 4 (lo := 0) (hi := 500) (by decide) (by decide) rfl
        rw [e129] at b130
        replace hT := hT.trans (pf_let_eq e129)
        refine pm_callV (ci := 12) (as := [(0, 2)]) (st := []) hC 90 fP_X12_spanLine_d2 lm_X12_198 li_X12_spanLine (by decide) (by decide) rfl rfl rfl (by decide) rfl rfl (Nat.le_of_ble_eq_true rfl) ⟨Nat.le_refl _, Or.inl rfl⟩ dX12_sceneLine_40 ⟨rfl, hV0, hn_pm_az, hn_pm_tk⟩ (fun r131 V132 hp133 => ?_)
        obtain ⟨y134, rfl, b135, hV136, hF137, hg138, hg139, hE140⟩ := hp133
        replace hT := hT.trans (pf_call_eq hE140)
        change pm_J X 43 [(0, (3, 90))] [(0, y134)] 118 V132
        have hF141 := pm_fs.tr (pm_fs.rf (cs := [92, 93, 94, 95, 96]) (fs := [2, 3, 4, 5, 6, 11, 12, 13, 37]) (V := V0)) hF137 (by decide) (by decide)
        have e142 : V132 90 1 = y1 := by rw [hF137.2 1 (by decide)]; exact e2
        obtain ⟨y143, e144⟩ : ∃ y, V132 90 2 = y := ⟨_, rfl⟩
        have b145 := hV136.get 90 2 (lo := 0) (hi := 500) (by decide) (by decide) rfl
        rw [e144] at b145
        replace hT := hT.trans (pf_let_eq e144)
        obtain ⟨y146, e147⟩ : ∃ y, V132 90 3 = y := ⟨_, rfl⟩
        have b148 := hV136.get 90 3 (lo := 0) (hi := 4) (by decide) (by decide) rfl
        rw [e147] at b148
        replace hT := hT.trans (pf_let_eq e147)
        obtain ⟨y149, e150⟩ : ∃ y, V132 90 4 = y := ⟨_, rfl⟩
        have b151 := hV136.get 90 4 (lo := 0) (hi := 500) (by decide) (by decide) rfl
        rw [e150] at b151
        replace hT := hT.trans (pf_let_eq e150)
        exact pm_iret hC hR (pm_narZ (by omega)) ⟨y134, rfl, ⟨by omega, by omega, by omega, by omega⟩, hV136, hF141, hg138, hg139, hT⟩ dX12_sceneLine_43
    · skip
      replace hT := hT.trans (if_neg c23)
      refine pm_aload_n hC 0 (by decide) dX12_sceneLine_23 rfl ?_
      refine pm_iconst (v := 0) hC dX12_sceneLine_24 ?_
      obtain ⟨y152, e153⟩ : ∃ y, V0 90 4 = y := ⟨_, rfl⟩
      have b154 := hV0.get 90 4 (lo := 0) (hi := 500) (by decide) (by decide) rfl
      rw [e153] at b154
      replace hT := hT.trans (pf_let_eq e153)
      refine pm_callV (ci := 12) (as := [(0, 0)]) (st := []) hC 90 fP_X12_spanLine_d0 lm_X12_198 li_X12_spanLine (by decide) (by decide) rfl rfl rfl (by decide) rfl rfl (Nat.le_of_ble_eq_true rfl) ⟨Nat.le_refl _, Or.inl rfl⟩ dX12_sceneLine_25 ⟨rfl, hV0, hn_pm_az, hn_pm_tk⟩ (fun r155 V156 hp157 => ?_)
      obtain ⟨y158, rfl, b159, hV160, hF161, hg162, hg163, hE164⟩ := hp157
      replace hT := hT.trans (pf_call_eq hE164)
      change pm_J X 28 [(0, (3, 90))] [(0, y158)] 118 V156
      have hF165 := pm_fs.tr (pm_fs.rf (cs := [92, 93, 94, 95, 96]) (fs := [2, 3, 4, 5, 6, 11, 12, 13, 37]) (V := V0)) hF161 (by decide) (by decide)
      have e166 : V156 90 1 = y1 := by rw [hF161.2 1 (by decide)]; exact e2
      obtain ⟨y167, e168⟩ : ∃ y, V156 90 2 = y := ⟨_, rfl⟩
      have b169 := hV160.get 90 2 (lo := 0) (hi := 500) (by decide) (by decide) rfl
      rw [e168] at b169
      replace hT := hT.trans (pf_let_eq e168)
      obtain ⟨y170, e171⟩ : ∃ y, V156 90 3 = y := ⟨_, rfl⟩
      have b172 := hV160.get 90 3 (lo := 0) (hi := 4) (by decide) (by decide) rfl
      rw [e171] at b172
      replace hT := hT.trans (pf_let_eq e171)
      obtain ⟨y173, e174⟩ : ∃ y, V156 90 4 = y := ⟨_, rfl⟩
      have b175 := hV160.get 90 4 (lo := 0) (hi := 500) (by decide) (by decide) rfl
      rw [e174] at b175
      replace hT := hT.trans (pf_let_eq e174)
      exact pm_iret hC hR (pm_narZ (by omega)) ⟨y158, rfl, ⟨by omega, by omega, by omega, by omega⟩, hV160, hF165, hg162, hg163, hT⟩ dX12_sceneLine_28
  · skip
    replace hT := hT.trans (if_neg c16)
    refine pm_aload_n hC 0 (by decide) dX12_sceneLine_9 rfl ?_
    obtain ⟨y176, e177⟩ : ∃ y, V0 90 4 = y := ⟨_, rfl⟩
    have b178 := hV0.get 90 4 (lo := 0) (hi := 500) (by decide) (by decide) rfl
    rw [e177] at b178
    replace hT := hT.trans (pf_let_eq e177)
    refine pm_callV (ci := 12) (as := []) (st := []) hC 90 fP_X12_soundLine lm_X12_195 li_X12_soundLine (by decide) (by decide) rfl rfl rfl (by decide) rfl rfl (Nat.le_of_ble_eq_true rfl) ⟨Nat.le_refl _, Or.inl rfl⟩ dX12_sceneLine_10 ⟨rfl, hV0, hn_pm_az, hn_pm_tk⟩ (fun r179 V180 hp181 => ?_)
    obtain ⟨y182, rfl, b183, hV184, hF185, hg186, hg187, hE188⟩ := hp181
    replace hT := hT.trans (pf_call_eq hE188)
    change pm_J X 13 [(0, (3, 90))] [(0, y182)] 118 V180
    have hF189 := pm_fs.tr (pm_fs.rf (cs := [92, 93, 94, 95, 96]) (fs := [2, 3, 4, 5, 6, 11, 12, 13, 37]) (V := V0)) hF185 (by decide) (by decide)
    have e190 : V180 90 1 = y1 := by rw [hF185.2 1 (by decide)]; exact e2
    obtain ⟨y191, e192⟩ : ∃ y, V180 90 2 = y := ⟨_, rfl⟩
    have b193 := hV184.get 90 2 (lo := 0) (hi := 500) (by decide) (by decide) rfl
    rw [e192] at b193
    replace hT := hT.trans (pf_let_eq e192)
    obtain ⟨y194, e195⟩ : ∃ y, V180 90 3 = y := ⟨_, rfl⟩
    have b196 := hV184.get 90 3 (lo := 0) (hi := 4) (by decide) (by decide) rfl
    rw [e195] at b196
    replace hT := hT.trans (pf_let_eq e195)
    obtain ⟨y197, e198⟩ : ∃ y, V180 90 4 = y := ⟨_, rfl⟩
    have b199 := hV184.get 90 4 (lo := 0) (hi := 500) (by decide) (by decide) rfl
    rw [e198] at b199
    replace hT := hT.trans (pf_let_eq e198)
    exact pm_iret hC hR (pm_narZ (by omega)) ⟨y182, rfl, ⟨by omega, by omega, by omega, by omega⟩, hV184, hF189, hg186, hg187, hT⟩ dX12_sceneLine_13
set_option maxHeartbeats 4000000 in
set_option maxRecDepth 100000 in
theorem fP_X12_sceneFault  : pm_K 10 yX12_sceneFault cX12_sceneFault 1 (some .int) (fun av V => av = [(3, 90)] ∧ pm_oq pm_qP V) (fun _ V r V' => ∃ y, r = some (0, y) ∧ ((-1) ≤ y ∧ y ≤ 500) ∧ pm_oq pm_qP V' ∧ pm_fs [92, 93, 94, 95, 96] [2, 3, 4, 5, 6, 11, 12, 13, 37] V V' ∧ pm_az V' ∧ F_X12_sceneFault  V = (y, V')) := by
  refine pm_MT.of (by decide) ⟨Nat.le_refl _, by decide⟩ (fun av V h => by rw [h.1]; exact (by decide : pm_words [(3, 0)] ≤ 1)) ?_
  rintro X av V0 hC - hR ⟨rfl, hV0⟩
  change pm_J X 0 [(0, (3, 90))] [] 118 V0
  have hT := F_X12_sceneFault_eq  V0
  refine pm_aload_n hC 0 (by decide) dX12_sceneFault_0 rfl ?_
  refine pm_iconst (v := 0) hC dX12_sceneFault_1 ?_
  refine pm_putf hC 90 fl_X12_169 rfl rfl rfl (by decide) rfl trivial dX12_sceneFault_2 ?_
  refine pm_aload_n hC 0 (by decide) dX12_sceneFault_5 rfl ?_
  refine pm_iconst (v := 0) hC dX12_sceneFault_6 ?_
  refine pm_putf hC 90 fl_X12_192 rfl rfl rfl (by decide) rfl trivial dX12_sceneFault_7 ?_
  refine pm_aload_n hC 0 (by decide) dX12_sceneFault_10 rfl ?_
  have e1 : V0 90 10 = 95 := hV0.one 90 10 (by decide) (by decide) rfl
  refine pm_getf (v := 95) hC 90 fl_X12_25 rfl rfl (by decide) rfl e1 dX12_sceneFault_11 ?_
  refine pm_iconst (v := 0) hC dX12_sceneFault_14 ?_
  refine pm_iconst (v := (-1)) hC dX12_sceneFault_15 ?_
  refine pm_iastore (len := 4) hC 95 rfl rfl (by decide) ⟨by decide, by decide⟩ (by decide) dX12_sceneFault_16 ?_
  refine pm_aload_n hC 0 (by decide) dX12_sceneFault_17 rfl ?_
  refine pm_getf (v := 95) hC 90 fl_X12_25 rfl rfl (by decide) rfl e1 dX12_sceneFault_18 ?_
  refine pm_iconst (v := 2) hC dX12_sceneFault_21 ?_
  refine pm_iconst (v := (-1)) hC dX12_sceneFault_22 ?_
  refine pm_iastore (len := 4) hC 95 rfl rfl (by decide) ⟨by decide, by decide⟩ (by decide) dX12_sceneFault_23 ?_
  refine pm_aload_n hC 0 (by decide) dX12_sceneFault_24 rfl ?_
  refine pm_iconst (v := (-1)) hC dX12_sceneFault_25 ?_
  refine pm_putf hC 90 fl_X12_186 rfl rfl rfl (by decide) rfl trivial dX12_sceneFault_26 ?_
  refine pm_aload_n hC 0 (by decide) dX12_sceneFault_29 rfl ?_
  refine pm_iconst (v := 0) hC dX12_sceneFault_30 ?_
  refine pm_putf hC 90 fl_X12_102 rfl rfl rfl (by decide) rfl trivial dX12_sceneFault_31 ?_
  have hV4 := ((((((hV0.put 90 6 (x := 0) (lo := 0) (hi := 9) rfl ⟨by decide, by decide⟩).put 90 13 (x := 0) (lo := 0) (hi := 12) rfl ⟨by decide, by decide⟩).put 95 (0 : Int).toNat (x := (-1)) (lo := (-1)) (hi := 60) ((pm_qe_r (tb := pm_qP) (k := 95) (i := (0 : Int).toNat) (m := 4) (r := 0) (l := [(-1, 60, 0), (0, 9, 0), (-1, 60, 0), (0, 9, 0)]) rfl rfl (by omega)).trans rfl) ⟨by decide, by decide⟩).put 95 (2 : Int).toNat (x := (-1)) (lo := (-1)) (hi := 60) ((pm_qe_r (tb := pm_qP) (k := 95) (i := (2 : Int).toNat) (m := 4) (r := 2) (l := [(-1, 60, 0), (0, 9, 0), (-1, 60, 0), (0, 9, 0)]) rfl rfl (by omega)).trans rfl) ⟨by decide, by decide⟩).put 90 11 (x := (-1)) (lo := (-1)) (hi := 16) rfl ⟨by decide, by decide⟩).put 90 2 (x := 0) (lo := 0) (hi := 500) rfl ⟨by decide, by decide⟩)
  have hF5 := (((((((pm_fs.rf (cs := [92, 93, 94, 95, 96]) (fs := [2, 3, 4, 5, 6, 11, 12, 13, 37]) (V := V0)).upf 6 0 rfl).upf 13 0 rfl).up 95 (0 : Int).toNat (-1) (by decide) rfl).up 95 (2 : Int).toNat (-1) (by decide) rfl).upf 11 (-1) rfl).upf 2 0 rfl)
  obtain ⟨V2, hv3⟩ : ∃ V, V = (pm_up (pm_up (pm_up (pm_up (pm_up (pm_up V0 90 6 0) 90 13 0) 95 (0 : Int).toNat (-1)) 95 (2 : Int).toNat (-1)) 90 11 (-1)) 90 2 0) := ⟨_, rfl⟩
  rw [← hv3] at hV4 hF5
  rw [← hv3]
  replace hT := hT.trans (pf_let_eq hv3.symm)
  have e6 : V2 90 10 = 95 := by rw [hv3]; exact e1
  have e7 : V2 90 6 = 0 := by rw [hv3]; rfl
  have e8 : V2 90 13 = 0 := by rw [hv3]; rfl
  have e9 : V2 90 11 = (-1) := by rw [hv3]; rfl
  have e10 : V2 90 2 = 0 := by rw [hv3]; rfl
  obtain ⟨y11, e12⟩ : ∃ y, V2 90 1 = y := ⟨_, rfl⟩
  have b13 := hV4.get 90 1 (lo := 0) (hi := 500) (by decide) (by decide) rfl
  rw [e12] at b13
  replace hT := hT.trans (pf_let_eq e12)
  have haz14 : pm_az V2 := by unfold pm_az; rw [e10, e12]; omega
  refine pm_aload_n hC 0 (by decide) dX12_sceneFault_34 rfl ?_
  obtain ⟨y15, e16⟩ : ∃ y, V2 90 3 = y := ⟨_, rfl⟩
  have b17 := hV4.get 90 3 (lo := 0) (hi := 4) (by decide) (by decide) rfl
  rw [e16] at b17
  replace hT := hT.trans (pf_let_eq e16)
  obtain ⟨y18, e19⟩ : ∃ y, V2 90 4 = y := ⟨_, rfl⟩
  have b20 := hV4.get 90 4 (lo := 0) (hi := 500) (by decide) (by decide) rfl
  rw [e19] at b20
  replace hT := hT.trans (pf_let_eq e19)
  refine pm_callV (ci := 12) (as := []) (st := []) hC 90 fP_X12_leads lm_X12_148 li_X12_leads (by decide) (by decide) rfl rfl rfl (by decide) rfl rfl (Nat.le_of_ble_eq_true rfl) ⟨Nat.le_refl _, Or.inl rfl⟩ dX12_sceneFault_35 ⟨rfl, hV4, haz14⟩ (fun r21 V22 hp23 => ?_)
  obtain ⟨rfl, hV24, hF25, hg26, hE27⟩ := hp23
  replace hT := hT.trans (pf_call_eq hE27)
  change pm_J X 38 [(0, (3, 90))] [] 118 V22
  have hF28 := pm_fs.tr hF5 hF25 (by decide) (by decide)
  have e29 : V22 90 10 = 95 := by rw [hF25.2 10 (by decide)]; exact e6
  have e30 : V22 90 6 = 0 := by rw [hF25.2 6 (by decide)]; exact e7
  have e31 : V22 90 13 = 0 := by rw [hF25.2 13 (by decide)]; exact e8
  have e32 : V22 90 11 = (-1) := by rw [hF25.2 11 (by decide)]; exact e9
  have e33 : V22 90 1 = y11 := by rw [hF25.2 1 (by decide)]; exact e12
  obtain ⟨y34, e35⟩ : ∃ y, V22 90 2 = y := ⟨_, rfl⟩
  have b36 := hV24.get 90 2 (lo := 0) (hi := 500) (by decide) (by decide) rfl
  rw [e35] at b36
  replace hT := hT.trans (pf_let_eq e35)
  obtain ⟨y37, e38⟩ : ∃ y, V22 90 3 = y := ⟨_, rfl⟩
  have b39 := hV24.get 90 3 (lo := 0) (hi := 4) (by decide) (by decide) rfl
  rw [e38] at b39
  replace hT := hT.trans (pf_let_eq e38)
  obtain ⟨y40, e41⟩ : ∃ y, V22 90 4 = y := ⟨_, rfl⟩
  have b42 := hV24.get 90 4 (lo := 0) (hi := 500) (by decide) (by decide) rfl
  rw [e41] at b42
  replace hT := hT.trans (pf_let_eq e41)
  have hpr43 := r_leads_pr hV4 haz14 hE27
  have htk44 : pm_tk V22 := hpr43.2.2.2.1
  obtain ⟨B52, hB53, hT⟩ := pf_loop hT
  have L55 : ∀ (N57 : Nat) (V45 : pm_M), pm_oq pm_qP V45 → pm_fs [92, 93, 94, 95, 96] [2, 3, 4, 5, 6, 11, 12, 13, 37] V0 V45 → V45 90 10 = 95 → V45 90 1 = y11 → pm_az V45 → pm_tk V45 → F_X12_sceneFault  V0 = pf_val ((0 : Int), V0) B52 V45 → (Int.toNat (5 * (500 - V45 90 2) + V45 90 3)) = N57 → pm_J X 38 [(0, (3, 90))] [] 118 V45 := by
    intro N57
    induction N57 using Nat.strongRecOn with
    | _ N57 ih58 =>
    intro V45 hV46 hF47 e48 e49 hp50 hp51 hT hm56
    have hb54 := congrFun hB53 V45
    refine pm_aload_n hC 0 (by decide) dX12_sceneFault_38 rfl ?_
    obtain ⟨y59, e60⟩ : ∃ y, V45 90 3 = y := ⟨_, rfl⟩
    have b61 := hV46.get 90 3 (lo := 0) (hi := 4) (by decide) (by decide) rfl
    rw [e60] at b61
    replace hb54 := hb54.trans (pf_let_eq e60)
    refine pm_getf (v := y59) hC 90 fl_X12_112 rfl rfl (by decide) rfl e60 dX12_sceneFault_39 ?_
    refine pm_if_eq (tgt := 57) hC ⟨by omega, by omega⟩ dX12_sceneFault_42 (by decide) (fun c62 => ?_) (fun c62 => ?_)
    · skip
      replace hb54 := hb54.trans (if_pos c62)
      refine pm_aload_n hC 0 (by decide) dX12_sceneFault_57 rfl ?_
      obtain ⟨y63, e64⟩ : ∃ y, V45 90 6 = y := ⟨_, rfl⟩
      have b65 := hV46.get 90 6 (lo := 0) (hi := 9) (by decide) (by decide) rfl
      rw [e64] at b65
      replace hb54 := hb54.trans (pf_let_eq e64)
      refine pm_getf (v := y63) hC 90 fl_X12_169 rfl rfl (by decide) rfl e64 dX12_sceneFault_58 ?_
      refine pm_iconst (v := 2) hC dX12_sceneFault_61 ?_
      refine pm_icmp_lt (tgt := 85) hC ⟨by omega, by omega⟩ ⟨by decide, by decide⟩ dX12_sceneFault_62 (by decide) (fun c66 => ?_) (fun c66 => ?_)
      · skip
        replace hb54 := hb54.trans (if_pos c66)
        refine pm_aload_n hC 0 (by decide) dX12_sceneFault_85 rfl ?_
        obtain ⟨y67, e68⟩ : ∃ y, V45 90 4 = y := ⟨_, rfl⟩
        have b69 := hV46.get 90 4 (lo := 0) (hi := 500) (by decide) (by decide) rfl
        rw [e68] at b69
        replace hb54 := hb54.trans (pf_let_eq e68)
        refine pm_getf (v := y67) hC 90 fl_X12_105 rfl rfl (by decide) rfl e68 dX12_sceneFault_86 ?_
        refine pm_goto (tgt := 93) hC dX12_sceneFault_89 (by decide) ?_
        have hT := hT.trans (pf_val_inr hb54)
        exact pm_iret hC hR pm_nar0 ⟨y67, rfl, ⟨by omega, by omega⟩, hV46, hF47, hp50, hT⟩ dX12_sceneFault_93
      · skip
        replace hb54 := hb54.trans (if_neg (Int.not_lt.mpr c66))
        refine pm_aload_n hC 0 (by decide) dX12_sceneFault_65 rfl ?_
        refine pm_getf (v := 95) hC 90 fl_X12_25 rfl rfl (by decide) rfl e48 dX12_sceneFault_66 ?_
        refine pm_iconst (v := 0) hC dX12_sceneFault_69 ?_
        obtain ⟨y70, e71⟩ : ∃ y, V45 95 (0 : Int).toNat = y := ⟨_, rfl⟩
        replace hb54 := hb54.trans (pf_let_eq e71)
        have b72 := hV46.get 95 (0 : Int).toNat (lo := (-1)) (hi := 60) (t := 0) (by decide) (show _ < 4 by omega) rfl
        rw [e71] at b72
        refine pm_iaload (len := 4) (v := y70) hC 95 rfl rfl (by decide) ⟨by decide, by decide⟩ (by decide) e71 dX12_sceneFault_70 ?_
        refine pm_iconst (v := (-1)) hC dX12_sceneFault_71 ?_
        refine pm_icmp_eq (tgt := 85) hC ⟨by omega, by omega⟩ ⟨by decide, by decide⟩ dX12_sceneFault_72 (by decide) (fun c73 => ?_) (fun c73 => ?_)
        · skip
          replace hb54 := hb54.trans (if_pos c73)
          refine pm_aload_n hC 0 (by decide) dX12_sceneFault_85 rfl ?_
          obtain ⟨y74, e75⟩ : ∃ y, V45 90 4 = y := ⟨_, rfl⟩
          have b76 := hV46.get 90 4 (lo := 0) (hi := 500) (by decide) (by decide) rfl
          rw [e75] at b76
          replace hb54 := hb54.trans (pf_let_eq e75)
          refine pm_getf (v := y74) hC 90 fl_X12_105 rfl rfl (by decide) rfl e75 dX12_sceneFault_86 ?_
          refine pm_goto (tgt := 93) hC dX12_sceneFault_89 (by decide) ?_
          have hT := hT.trans (pf_val_inr hb54)
          exact pm_iret hC hR pm_nar0 ⟨y74, rfl, ⟨by omega, by omega⟩, hV46, hF47, hp50, hT⟩ dX12_sceneFault_93
        · skip
          replace hb54 := hb54.trans (if_neg c73)
          refine pm_aload_n hC 0 (by decide) dX12_sceneFault_75 rfl ?_
          refine pm_getf (v := 95) hC 90 fl_X12_25 rfl rfl (by decide) rfl e48 dX12_sceneFault_76 ?_
          refine pm_iconst (v := 2) hC dX12_sceneFault_79 ?_
          obtain ⟨y77, e78⟩ : ∃ y, V45 95 (2 : Int).toNat = y := ⟨_, rfl⟩
          replace hb54 := hb54.trans (pf_let_eq e78)
          have b79 := hV46.get 95 (2 : Int).toNat (lo := (-1)) (hi := 60) (t := 0) (by decide) (show _ < 4 by omega) rfl
          rw [e78] at b79
          refine pm_iaload (len := 4) (v := y77) hC 95 rfl rfl (by decide) ⟨by decide, by decide⟩ (by decide) e78 dX12_sceneFault_80 ?_
          refine pm_iconst (v := (-1)) hC dX12_sceneFault_81 ?_
          refine pm_icmp_ne (tgt := 92) hC ⟨by omega, by omega⟩ ⟨by decide, by decide⟩ dX12_sceneFault_82 (by decide) (fun c80 => ?_) (fun c80 => ?_)
          · skip
            replace hb54 := hb54.trans (if_pos c80)
            refine pm_iconst (v := (-1)) hC dX12_sceneFault_92 ?_
            have hT := hT.trans (pf_val_inr hb54)
            exact pm_iret hC hR pm_nar0 ⟨(-1), rfl, ⟨by omega, by omega⟩, hV46, hF47, hp50, hT⟩ dX12_sceneFault_93
          · skip
            replace hb54 := hb54.trans (if_neg (fun q => q c80))
            refine pm_aload_n hC 0 (by decide) dX12_sceneFault_85 rfl ?_
            obtain ⟨y81, e82⟩ : ∃ y, V45 90 4 = y := ⟨_, rfl⟩
            have b83 := hV46.get 90 4 (lo := 0) (hi := 500) (by decide) (by decide) rfl
            rw [e82] at b83
            replace hb54 := hb54.trans (pf_let_eq e82)
            refine pm_getf (v := y81) hC 90 fl_X12_105 rfl rfl (by decide) rfl e82 dX12_sceneFault_86 ?_
            refine pm_goto (tgt := 93) hC dX12_sceneFault_89 (by decide) ?_
            have hT := hT.trans (pf_val_inr hb54)
            exact pm_iret hC hR pm_nar0 ⟨y81, rfl, ⟨by omega, by omega⟩, hV46, hF47, hp50, hT⟩ dX12_sceneFault_93
    · skip
      replace hb54 := hb54.trans (if_neg c62)
      refine pm_aload_n hC 0 (by decide) dX12_sceneFault_45 rfl ?_
      obtain ⟨y84, e85⟩ : ∃ y, V45 90 2 = y := ⟨_, rfl⟩
      have b86 := hV46.get 90 2 (lo := 0) (hi := 500) (by decide) (by decide) rfl
      rw [e85] at b86
      replace hb54 := hb54.trans (pf_let_eq e85)
      obtain ⟨y87, e88⟩ : ∃ y, V45 90 4 = y := ⟨_, rfl⟩
      have b89 := hV46.get 90 4 (lo := 0) (hi := 500) (by decide) (by decide) rfl
      rw [e88] at b89
      replace hb54 := hb54.trans (pf_let_eq e88)
      refine pm_callV (ci := 12) (as := []) (st := []) hC 90 fP_X12_sceneLine lm_X12_210 li_X12_sceneLine (by decide) (by decide) rfl rfl rfl (by decide) rfl rfl (Nat.le_of_ble_eq_true rfl) ⟨Nat.le_refl _, Or.inl rfl⟩ dX12_sceneFault_46 ⟨rfl, hV46, hp50, hp51⟩ (fun r90 V91 hp92 => ?_)
      obtain ⟨y93, rfl, b94, hV95, hF96, hg97, hg98, hE99⟩ := hp92
      replace hb54 := hb54.trans (pf_call_eq hE99)
      change pm_J X 49 [(0, (3, 90))] [(0, y93)] 118 V91
      have hF100 := pm_fs.tr hF47 hF96 (by decide) (by decide)
      have e101 : V91 90 10 = 95 := by rw [hF96.2 10 (by decide)]; exact e48
      have e102 : V91 90 1 = y11 := by rw [hF96.2 1 (by decide)]; exact e49
      obtain ⟨y103, e104⟩ : ∃ y, V91 90 2 = y := ⟨_, rfl⟩
      have b105 := hV95.get 90 2 (lo := 0) (hi := 500) (by decide) (by decide) rfl
      rw [e104] at b105
      replace hb54 := hb54.trans (pf_let_eq e104)
      obtain ⟨y106, e107⟩ : ∃ y, V91 90 3 = y := ⟨_, rfl⟩
      have b108 := hV95.get 90 3 (lo := 0) (hi := 4) (by decide) (by decide) rfl
      rw [e107] at b108
      replace hb54 := hb54.trans (pf_let_eq e107)
      obtain ⟨y109, e110⟩ : ∃ y, V91 90 4 = y := ⟨_, rfl⟩
      have b111 := hV95.get 90 4 (lo := 0) (hi := 500) (by decide) (by decide) rfl
      rw [e110] at b111
      replace hb54 := hb54.trans (pf_let_eq e110)
      refine pm_if_ne (tgt := 38) hC ⟨by omega, by omega⟩ dX12_sceneFault_49 (by decide) (fun c112 => ?_) (fun c112 => ?_)
      · skip
        replace hb54 := hb54.trans (if_pos c112)
        refine pm_lvsub [0] (lv' := [(0, (3, 90))]) rfl ?_
        exact ih58 _ (by omega) V91 hV95 hF100 e101 e102 hg97 hg98 (hT.trans (pf_val_inl hb54)) rfl
      · skip
        replace hb54 := hb54.trans (if_neg (fun q => q c112))
        refine pm_aload_n hC 0 (by decide) dX12_sceneFault_52 rfl ?_
        refine pm_getf (v := y109) hC 90 fl_X12_105 rfl rfl (by decide) rfl e110 dX12_sceneFault_53 ?_
        have hT := hT.trans (pf_val_inr hb54)
        exact pm_iret hC hR pm_nar0 ⟨y109, rfl, ⟨by omega, by omega⟩, hV95, hF100, hg97, hT⟩ dX12_sceneFault_56
  refine pm_lvsub [0] (lv' := [(0, (3, 90))]) rfl ?_
  exact L55 _ V22 hV24 hF28 e29 e33 hg26 htk44 hT rfl
