noncomputable def F_X12_named (V0 : pm_M) : Int × pm_M := pf_val ((0 : Int), V0) (fun (q : Int) => match q with | x1 => (pf_let (V0 90 6) fun y10 => (if y10 ≤ x1 then ((.inr ((-1), V0))) else (pf_call (F_X12_isName  V0) fun y17 _ => (if y17 = 0 then ((.inr ((-1), V0))) else (pf_let (V0 92 (x1 : Int).toNat) fun y22 => pf_let (V0 90 5) fun y25 => pf_let (pm_cmp y22 y25) fun y28 => (if ¬ (y28 = 0) then (pf_let (x1 + 1) fun x31 => (.inl x31)) else ((.inr (x1, V0)))))))))) 0
theorem F_X12_named_eq (V0 : pm_M) : F_X12_named V0 = pf_val ((0 : Int), V0) (fun (q : Int) => match q with | x1 => (pf_let (V0 90 6) fun y10 => (if y10 ≤ x1 then ((.inr ((-1), V0))) else (pf_call (F_X12_isName  V0) fun y17 _ => (if y17 = 0 then ((.inr ((-1), V0))) else (pf_let (V0 92 (x1 : Int).toNat) fun y22 => pf_let (V0 90 5) fun y25 => pf_let (pm_cmp y22 y25) fun y28 => (if ¬ (y28 = 0) then (pf_let (x1 + 1) fun x31 => (.inl x31)) else ((.inr (x1, V0)))))))))) 0 := rfl
noncomputable def F_X12_closes (V0 : pm_M) : Int × pm_M := pf_let (V0 90 1) fun y1 => pf_let (V0 90 2) fun y4 => pf_call (F_X12_isSign 59 V0) fun y10 _ => (if ¬ (y10 = 0) then (pf_let (V0 90 3) fun y14 => pf_let (V0 90 4) fun y17 => pf_call (F_X12_leads  V0) fun _ V21 => pf_let (V21 90 2) fun y29 => pf_let (V21 90 3) fun y32 => pf_let (V21 90 4) fun y35 => (1, V21)) else (pf_let (V0 90 3) fun y39 => pf_let (V0 90 4) fun y42 => (0, V0)))
theorem F_X12_closes_eq (V0 : pm_M) : F_X12_closes V0 = pf_let (V0 90 1) fun y1 => pf_let (V0 90 2) fun y4 => pf_call (F_X12_isSign 59 V0) fun y10 _ => (if ¬ (y10 = 0) then (pf_let (V0 90 3) fun y14 => pf_let (V0 90 4) fun y17 => pf_call (F_X12_leads  V0) fun _ V21 => pf_let (V21 90 2) fun y29 => pf_let (V21 90 3) fun y32 => pf_let (V21 90 4) fun y35 => (1, V21)) else (pf_let (V0 90 3) fun y39 => pf_let (V0 90 4) fun y42 => (0, V0))) := rfl
noncomputable def F_X12_learnLine (V0 : pm_M) : Int × pm_M := pf_let (V0 90 1) fun y1 => pf_let (V0 90 2) fun y4 => pf_let (V0 90 13) fun y7 => (if ¬ (y7 = 12) then (pf_val ((0 : Int), V0) (fun (q : Int × pm_M) => match q with | (x11, V13) => ((if 3 ≤ x11 then (pf_let (V13 90 2) fun y28 => pf_let (V13 90 3) fun y31 => pf_let (V13 90 4) fun y34 => pf_call (F_X12_leads  V13) fun _ V38 => pf_let (V38 90 2) fun y47 => pf_let (V38 90 3) fun y50 => pf_let (V38 90 4) fun y53 => pf_let ((pm_up V38 90 13 (y7 + 1))) fun V57 => pf_call (F_X12_closes  V57) fun y70 V68 => pf_let (V68 90 2) fun y79 => pf_let (V68 90 3) fun y82 => pf_let (V68 90 4) fun y85 => (.inr (y70, V68))) else (pf_let (V13 90 2) fun y88 => pf_let (V13 90 3) fun y91 => pf_let (V13 90 4) fun y94 => pf_call (F_X12_leads  V13) fun _ V98 => pf_let (V98 90 2) fun y107 => pf_let (V98 90 3) fun y110 => pf_let (V98 90 4) fun y113 => pf_call (F_X12_named  V98) fun y121 _ => pf_let ((pm_up V98 96 (((3 * y7) + x11) : Int).toNat y121)) fun V124 => pf_let (V124 96 (((3 * y7) + x11) : Int).toNat) fun y135 => (if ¬ (y135 = (-1)) then (pf_val (.inr ((0 : Int), V0)) (fun (q : Int) => match q with | x139 => ((if y7 ≤ x139 then (pf_let (x11 + 1) fun x149 => (.inr (.inl (x149, V124)))) else ((if ¬ (x11 = 1) then (pf_let (x11 + 1) fun x152 => (.inr (.inl (x152, V124)))) else (pf_let (V124 96 ((3 * x139) : Int).toNat) fun y154 => pf_let (V124 96 ((3 * y7) : Int).toNat) fun y157 => (if ¬ (y154 = y157) then (pf_let (x139 + 1) fun x161 => (.inl x161)) else (pf_let (V124 96 (((3 * x139) + 1) : Int).toNat) fun y163 => pf_let (V124 96 (((3 * y7) + 1) : Int).toNat) fun y166 => (if ¬ (y163 = y166) then (pf_let (x139 + 1) fun x170 => (.inl x170)) else ((.inr (.inr (0, V124))))))))))))) 0) else ((.inr (0, V124)))))))) (0, V0)) else (pf_let (V0 90 3) fun y172 => pf_let (V0 90 4) fun y175 => (0, V0)))
theorem F_X12_learnLine_eq (V0 : pm_M) : F_X12_learnLine V0 = pf_let (V0 90 1) fun y1 => pf_let (V0 90 2) fun y4 => pf_let (V0 90 13) fun y7 => (if ¬ (y7 = 12) then (pf_val ((0 : Int), V0) (fun (q : Int × pm_M) => match q with | (x11, V13) => ((if 3 ≤ x11 then (pf_let (V13 90 2) fun y28 => pf_let (V13 90 3) fun y31 => pf_let (V13 90 4) fun y34 => pf_call (F_X12_leads  V13) fun _ V38 => pf_let (V38 90 2) fun y47 => pf_let (V38 90 3) fun y50 => pf_let (V38 90 4) fun y53 => pf_let ((pm_up V38 90 13 (y7 + 1))) fun V57 => pf_call (F_X12_closes  V57) fun y70 V68 => pf_let (V68 90 2) fun y79 => pf_let (V68 90 3) fun y82 => pf_let (V68 90 4) fun y85 => (.inr (y70, V68))) else (pf_let (V13 90 2) fun y88 => pf_let (V13 90 3) fun y91 => pf_let (V13 90 4) fun y94 => pf_call (F_X12_leads  V13) fun _ V98 => pf_let (V98 90 2) fun y107 => pf_let (V98 90 3) fun y110 => pf_let (V98 90 4) fun y113 => pf_call (F_X12_named  V98) fun y121 _ => pf_let ((pm_up V98 96 (((3 * y7) + x11) : Int).toNat y121)) fun V124 => pf_let (V124 96 (((3 * y7) + x11) : Int).toNat) fun y135 => (if ¬ (y135 = (-1)) then (pf_val (.inr ((0 : Int), V0)) (fun (q : Int) => match q with | x139 => ((if y7 ≤ x139 then (pf_let (x11 + 1) fun x149 => (.inr (.inl (x149, V124)))) else ((if ¬ (x11 = 1) then (pf_let (x11 + 1) fun x152 => (.inr (.inl (x152, V124)))) else (pf_let (V124 96 ((3 * x139) : Int).toNat) fun y154 => pf_let (V124 96 ((3 * y7) : Int).toNat) fun y157 => (if ¬ (y154 = y157) then (pf_let (x139 + 1) fun x161 => (.inl x161)) else (pf_let (V124 96 (((3 * x139) + 1) : Int).toNat) fun y163 => pf_let (V124 96 (((3 * y7) + 1) : Int).toNat) fun y166 => (if ¬ (y163 = y166) then (pf_let (x139 + 1) fun x170 => (.inl x170)) else ((.inr (.inr (0, V124))))))))))))) 0) else ((.inr (0, V124)))))))) (0, V0)) else (pf_let (V0 90 3) fun y172 => pf_let (V0 90 4) fun y175 => (0, V0))) := rfl
noncomputable def F_X12_number (a1 a2 : Int) (V0 : pm_M) : Int × pm_M := pf_let (V0 90 1) fun y1 => pf_let (V0 90 2) fun y4 => pf_let (V0 90 3) fun y7 => (if ¬ (y7 = 2) then (pf_let (V0 90 4) fun y11 => (0, V0)) else (pf_let (V0 90 5) fun y14 => pf_let (pm_cmp y14 a1) fun y17 => (if y17 < 0 then (pf_let (V0 90 4) fun y20 => (0, V0)) else (pf_let (pm_cmp y14 a2) fun y23 => (if y23 ≤ 0 then (pf_let ((pm_up V0 90 37 y14)) fun V26 => pf_let (V26 90 4) fun y36 => pf_call (F_X12_leads  V26) fun _ V40 => pf_let (V40 90 2) fun y49 => pf_let (V40 90 3) fun y52 => pf_let (V40 90 4) fun y55 => (1, V40)) else (pf_let (V0 90 4) fun y59 => (0, V0)))))))
theorem F_X12_number_eq (a1 a2 : Int) (V0 : pm_M) : F_X12_number a1 a2 V0 = pf_let (V0 90 1) fun y1 => pf_let (V0 90 2) fun y4 => pf_let (V0 90 3) fun y7 => (if ¬ (y7 = 2) then (pf_let (V0 90 4) fun y11 => (0, V0)) else (pf_let (V0 90 5) fun y14 => pf_let (pm_cmp y14 a1) fun y17 => (if y17 < 0 then (pf_let (V0 90 4) fun y20 => (0, V0)) else (pf_let (pm_cmp y14 a2) fun y23 => (if y23 ≤ 0 then (pf_let ((pm_up V0 90 37 y14)) fun V26 => pf_let (V26 90 4) fun y36 => pf_call (F_X12_leads  V26) fun _ V40 => pf_let (V40 90 2) fun y49 => pf_let (V40 90 3) fun y52 => pf_let (V40 90 4) fun y55 => (1, V40)) else (pf_let (V0 90 4) fun y59 => (0, V0))))))) := rfl
noncomputable def F_X12_holdLine (V0 : pm_M) : Int × pm_M := pf_let (V0 90 1) fun y1 => pf_let (V0 90 2) fun y4 => pf_let (V0 90 3) fun y7 => pf_let (V0 90 4) fun y10 => pf_call (F_X12_leads  V0) fun _ V14 => pf_let (V14 90 2) fun y22 => pf_let (V14 90 3) fun y25 => pf_let (V14 90 4) fun y28 => pf_call (F_X12_named  V14) fun y35 _ => (if y35 = (-1) then ((0, V14)) else (pf_let (V14 94 (y35 : Int).toNat) fun y40 => (if y40 = 0 then (pf_call (F_X12_leads  V14) fun _ V45 => pf_let (V45 90 2) fun y54 => pf_let (V45 90 3) fun y57 => pf_let (V45 90 4) fun y60 => pf_call (F_X12_number 1 9 V45) fun y67 V65 => pf_let (V65 90 2) fun y76 => pf_let (V65 90 3) fun y79 => pf_let (V65 90 4) fun y82 => pf_let (V65 90 37) fun y85 => (if ¬ (y67 = 0) then (pf_let ((pm_up (pm_up V65 93 (((3 * y35) + 2) : Int).toNat y85) 94 (y35 : Int).toNat 1)) fun V90 => pf_call (F_X12_closes  V90) fun y105 V103 => pf_let (V103 90 2) fun y116 => pf_let (V103 90 3) fun y119 => pf_let (V103 90 4) fun y122 => (y105, V103)) else ((0, V65)))) else ((0, V14)))))
theorem F_X12_holdLine_eq (V0 : pm_M) : F_X12_holdLine V0 = pf_let (V0 90 1) fun y1 => pf_let (V0 90 2) fun y4 => pf_let (V0 90 3) fun y7 => pf_let (V0 90 4) fun y10 => pf_call (F_X12_leads  V0) fun _ V14 => pf_let (V14 90 2) fun y22 => pf_let (V14 90 3) fun y25 => pf_let (V14 90 4) fun y28 => pf_call (F_X12_named  V14) fun y35 _ => (if y35 = (-1) then ((0, V14)) else (pf_let (V14 94 (y35 : Int).toNat) fun y40 => (if y40 = 0 then (pf_call (F_X12_leads  V14) fun _ V45 => pf_let (V45 90 2) fun y54 => pf_let (V45 90 3) fun y57 => pf_let (V45 90 4) fun y60 => pf_call (F_X12_number 1 9 V45) fun y67 V65 => pf_let (V65 90 2) fun y76 => pf_let (V65 90 3) fun y79 => pf_let (V65 90 4) fun y82 => pf_let (V65 90 37) fun y85 => (if ¬ (y67 = 0) then (pf_let ((pm_up (pm_up V65 93 (((3 * y35) + 2) : Int).toNat y85) 94 (y35 : Int).toNat 1)) fun V90 => pf_call (F_X12_closes  V90) fun y105 V103 => pf_let (V103 90 2) fun y116 => pf_let (V103 90 3) fun y119 => pf_let (V103 90 4) fun y122 => (y105, V103)) else ((0, V65)))) else ((0, V14))))) := rfl
noncomputable def F_X12_oddsLine (V0 : pm_M) : Int × pm_M := pf_let (V0 90 1) fun y1 => pf_let (V0 90 2) fun y4 => pf_let (V0 90 11) fun y7 => (if y7 = (-1) then (pf_let (V0 90 3) fun y11 => pf_let (V0 90 4) fun y14 => pf_call (F_X12_leads  V0) fun _ V18 => pf_let (V18 90 2) fun y27 => pf_let (V18 90 3) fun y30 => pf_let (V18 90 4) fun y33 => pf_call (F_X12_number 0 16 V18) fun y40 V38 => pf_let (V38 90 2) fun y49 => pf_let (V38 90 3) fun y52 => pf_let (V38 90 4) fun y55 => pf_let (V38 90 37) fun y58 => (if ¬ (y40 = 0) then (pf_call (F_X12_number 1 99 V38) fun y65 V63 => pf_let (V63 90 2) fun y74 => pf_let (V63 90 3) fun y77 => pf_let (V63 90 4) fun y80 => pf_let (V63 90 37) fun y83 => (if ¬ (y65 = 0) then (pf_let ((pm_up (pm_up V63 90 11 y58) 90 12 y83)) fun V87 => pf_call (F_X12_closes  V87) fun y102 V100 => pf_let (V100 90 2) fun y113 => pf_let (V100 90 3) fun y116 => pf_let (V100 90 4) fun y119 => (y102, V100)) else ((0, V63)))) else ((0, V38)))) else (pf_let (V0 90 3) fun y122 => pf_let (V0 90 4) fun y125 => (0, V0)))
theorem F_X12_oddsLine_eq (V0 : pm_M) : F_X12_oddsLine V0 = pf_let (V0 90 1) fun y1 => pf_let (V0 90 2) fun y4 => pf_let (V0 90 11) fun y7 => (if y7 = (-1) then (pf_let (V0 90 3) fun y11 => pf_let (V0 90 4) fun y14 => pf_call (F_X12_leads  V0) fun _ V18 => pf_let (V18 90 2) fun y27 => pf_let (V18 90 3) fun y30 => pf_let (V18 90 4) fun y33 => pf_call (F_X12_number 0 16 V18) fun y40 V38 => pf_let (V38 90 2) fun y49 => pf_let (V38 90 3) fun y52 => pf_let (V38 90 4) fun y55 => pf_let (V38 90 37) fun y58 => (if ¬ (y40 = 0) then (pf_call (F_X12_number 1 99 V38) fun y65 V63 => pf_let (V63 90 2) fun y74 => pf_let (V63 90 3) fun y77 => pf_let (V63 90 4) fun y80 => pf_let (V63 90 37) fun y83 => (if ¬ (y65 = 0) then (pf_let ((pm_up (pm_up V63 90 11 y58) 90 12 y83)) fun V87 => pf_call (F_X12_closes  V87) fun y102 V100 => pf_let (V100 90 2) fun y113 => pf_let (V100 90 3) fun y116 => pf_let (V100 90 4) fun y119 => (y102, V100)) else ((0, V63)))) else ((0, V38)))) else (pf_let (V0 90 3) fun y122 => pf_let (V0 90 4) fun y125 => (0, V0))) := rfl
noncomputable def F_X12_spanLine_d2 (V0 : pm_M) : Int × pm_M := pf_let (V0 90 1) fun y1 => pf_let (V0 90 2) fun y4 => pf_let (V0 95 (2 : Int).toNat) fun y8 => (if y8 = (-1) then (pf_let (V0 90 3) fun y12 => pf_let (V0 90 4) fun y15 => pf_call (F_X12_leads  V0) fun _ V19 => pf_let (V19 90 2) fun y28 => pf_let (V19 90 3) fun y31 => pf_let (V19 90 4) fun y34 => pf_call (F_X12_number 1 60 V19) fun y41 V39 => pf_let (V39 90 2) fun y50 => pf_let (V39 90 3) fun y53 => pf_let (V39 90 4) fun y56 => pf_let (V39 90 37) fun y59 => (if ¬ (y41 = 0) then (pf_call (F_X12_number 0 9 V39) fun y66 V64 => pf_let (V64 90 2) fun y75 => pf_let (V64 90 3) fun y78 => pf_let (V64 90 4) fun y81 => pf_let (V64 90 37) fun y84 => (if ¬ (y66 = 0) then (pf_let ((pm_up (pm_up V64 95 (2 : Int).toNat y59) 95 (3 : Int).toNat y84)) fun V88 => pf_call (F_X12_closes  V88) fun y102 V100 => pf_let (V100 90 2) fun y112 => pf_let (V100 90 3) fun y115 => pf_let (V100 90 4) fun y118 => (y102, V100)) else ((0, V64)))) else ((0, V39)))) else (pf_let (V0 90 3) fun y121 => pf_let (V0 90 4) fun y124 => (0, V0)))
theorem F_X12_spanLine_d2_eq (V0 : pm_M) : F_X12_spanLine_d2 V0 = pf_let (V0 90 1) fun y1 => pf_let (V0 90 2) fun y4 => pf_let (V0 95 (2 : Int).toNat) fun y8 => (if y8 = (-1) then (pf_let (V0 90 3) fun y12 => pf_let (V0 90 4) fun y15 => pf_call (F_X12_leads  V0) fun _ V19 => pf_let (V19 90 2) fun y28 => pf_let (V19 90 3) fun y31 => pf_let (V19 90 4) fun y34 => pf_call (F_X12_number 1 60 V19) fun y41 V39 => pf_let (V39 90 2) fun y50 => pf_let (V39 90 3) fun y53 => pf_let (V39 90 4) fun y56 => pf_let (V39 90 37) fun y59 => (if ¬ (y41 = 0) then (pf_call (F_X12_number 0 9 V39) fun y66 V64 => pf_let (V64 90 2) fun y75 => pf_let (V64 90 3) fun y78 => pf_let (V64 90 4) fun y81 => pf_let (V64 90 37) fun y84 => (if ¬ (y66 = 0) then (pf_let ((pm_up (pm_up V64 95 (2 : Int).toNat y59) 95 (3 : Int).toNat y84)) fun V88 => pf_call (F_X12_closes  V88) fun y102 V100 => pf_let (V100 90 2) fun y112 => pf_let (V100 90 3) fun y115 => pf_let (V100 90 4) fun y118 => (y102, V100)) else ((0, V64)))) else ((0, V39)))) else (pf_let (V0 90 3) fun y121 => pf_let (V0 90 4) fun y124 => (0, V0))) := rfl
noncomputable def F_X12_spanLine_d0 (V0 : pm_M) : Int × pm_M := pf_let (V0 90 1) fun y1 => pf_let (V0 90 2) fun y4 => pf_let (V0 95 (0 : Int).toNat) fun y8 => (if y8 = (-1) then (pf_let (V0 90 3) fun y12 => pf_let (V0 90 4) fun y15 => pf_call (F_X12_leads  V0) fun _ V19 => pf_let (V19 90 2) fun y28 => pf_let (V19 90 3) fun y31 => pf_let (V19 90 4) fun y34 => pf_call (F_X12_number 1 60 V19) fun y41 V39 => pf_let (V39 90 2) fun y50 => pf_let (V39 90 3) fun y53 => pf_let (V39 90 4) fun y56 => pf_let (V39 90 37) fun y59 => (if ¬ (y41 = 0) then (pf_call (F_X12_number 0 9 V39) fun y66 V64 => pf_let (V64 90 2) fun y75 => pf_let (V64 90 3) fun y78 => pf_let (V64 90 4) fun y81 => pf_let (V64 90 37) fun y84 => (if ¬ (y66 = 0) then (pf_let ((pm_up (pm_up V64 95 (0 : Int).toNat y59) 95 (1 : Int).toNat y84)) fun V88 => pf_call (F_X12_closes  V88) fun y102 V100 => pf_let (V100 90 2) fun y112 => pf_let (V100 90 3) fun y115 => pf_let (V100 90 4) fun y118 => (y102, V100)) else ((0, V64)))) else ((0, V39)))) else (pf_let (V0 90 3) fun y121 => pf_let (V0 90 4) fun y124 => (0, V0)))
theorem F_X12_spanLine_d0_eq (V0 : pm_M) : F_X12_spanLine_d0 V0 = pf_let (V0 90 1) fun y1 => pf_let (V0 90 2) fun y4 => pf_let (V0 95 (0 : Int).toNat) fun y8 => (if y8 = (-1) then (pf_let (V0 90 3) fun y12 => pf_let (V0 90 4) fun y15 => pf_call (F_X12_leads  V0) fun _ V19 => pf_let (V19 90 2) fun y28 => pf_let (V19 90 3) fun y31 => pf_let (V19 90 4) fun y34 => pf_call (F_X12_number 1 60 V19) fun y41 V39 => pf_let (V39 90 2) fun y50 => pf_let (V39 90 3) fun y53 => pf_let (V39 90 4) fun y56 => pf_let (V39 90 37) fun y59 => (if ¬ (y41 = 0) then (pf_call (F_X12_number 0 9 V39) fun y66 V64 => pf_let (V64 90 2) fun y75 => pf_let (V64 90 3) fun y78 => pf_let (V64 90 4) fun y81 => pf_let (V64 90 37) fun y84 => (if ¬ (y66 = 0) then (pf_let ((pm_up (pm_up V64 95 (0 : Int).toNat y59) 95 (1 : Int).toNat y84)) fun V88 => pf_call (F_X12_closes  V88) fun y102 V100 => pf_let (V100 90 2) fun y112 => pf_let (V100 90 3) fun y115 => pf_let (V100 90 4) fun y118 => (y102, V100)) else ((0, V64)))) else ((0, V39)))) else (pf_let (V0 90 3) fun y121 => pf_let (V0 90 4) fun y124 => (0, V0))) := rfl
noncomputable def F_X12_soundLine (V0 : pm_M) : Int × pm_M := pf_let (V0 90 1) fun y1 => pf_let (V0 90 2) fun y4 => pf_let (V0 90 6) fun y7 => (if ¬ (y7 = 9) then (pf_let (V0 90 3) fun y11 => pf_let (V0 90 4) fun y14 => pf_call (F_X12_leads  V0) fun _ V18 => pf_let (V18 90 2) fun y27 => pf_let (V18 90 3) fun y30 => pf_let (V18 90 4) fun y33 => pf_call (F_X12_isName  V18) fun y40 _ => (if y40 = 0 then ((0, V18)) else (pf_call (F_X12_named  V18) fun y47 _ => (if y47 = (-1) then (pf_let (V18 90 5) fun y51 => pf_call (F_X12_leads  V18) fun _ V55 => pf_let (V55 90 2) fun y64 => pf_let (V55 90 3) fun y67 => pf_let (V55 90 4) fun y70 => pf_call (F_X12_number 0 99 V55) fun y77 V75 => pf_let (V75 90 2) fun y86 => pf_let (V75 90 3) fun y89 => pf_let (V75 90 4) fun y92 => pf_let (V75 90 37) fun y95 => (if ¬ (y77 = 0) then (pf_val ((0 : Int), V0) (fun (q : Int) => match q with | x99 => ((if y7 ≤ x99 then (pf_call (F_X12_number 0 99 V75) fun y112 V110 => pf_let (V110 90 2) fun y121 => pf_let (V110 90 3) fun y124 => pf_let (V110 90 4) fun y127 => pf_let (V110 90 37) fun y130 => (if ¬ (y112 = 0) then (pf_let ((pm_up (pm_up (pm_up (pm_up (pm_up (pm_up V110 92 (y7 : Int).toNat y51) 93 ((3 * y7) : Int).toNat y95) 93 (((3 * y7) + 1) : Int).toNat y130) 93 (((3 * y7) + 2) : Int).toNat 1) 94 (y7 : Int).toNat 0) 90 6 (y7 + 1))) fun V137 => pf_call (F_X12_closes  V137) fun y154 V152 => pf_let (V152 90 2) fun y167 => pf_let (V152 90 3) fun y170 => pf_let (V152 90 4) fun y173 => (.inr (y154, V152))) else ((.inr (0, V110))))) else ((if ¬ (y89 = 2) then (pf_let (x99 + 1) fun x177 => (.inl x177)) else (pf_let (V75 93 ((3 * x99) : Int).toNat) fun y180 => (if ¬ (y180 = y95) then (pf_let (x99 + 1) fun x184 => (.inl x184)) else (pf_let (V75 93 (((3 * x99) + 1) : Int).toNat) fun y186 => pf_let (V75 90 5) fun y189 => pf_let (pm_cmp y186 y189) fun y192 => (if ¬ (y192 = 0) then (pf_let (x99 + 1) fun x195 => (.inl x195)) else ((.inr (0, V75)))))))))))) 0) else ((0, V75)))) else ((0, V18)))))) else (pf_let (V0 90 3) fun y197 => pf_let (V0 90 4) fun y200 => (0, V0)))
theorem F_X12_soundLine_eq (V0 : pm_M) : F_X12_soundLine V0 = pf_let (V0 90 1) fun y1 => pf_let (V0 90 2) fun y4 => pf_let (V0 90 6) fun y7 => (if ¬ (y7 = 9) then (pf_let (V0 90 3) fun y11 => pf_let (V0 90 4) fun y14 => pf_call (F_X12_leads  V0) fun _ V18 => pf_let (V18 90 2) fun y27 => pf_let (V18 90 3) fun y30 => pf_let (V18 90 4) fun y33 => pf_call (F_X12_isName  V18) fun y40 _ => (if y40 = 0 then ((0, V18)) else (pf_call (F_X12_named  V18) fun y47 _ => (if y47 = (-1) then (pf_let (V18 90 5) fun y51 => pf_call (F_X12_leads  V18) fun _ V55 => pf_let (V55 90 2) fun y64 => pf_let (V55 90 3) fun y67 => pf_let (V55 90 4) fun y70 => pf_call (F_X12_number 0 99 V55) fun y77 V75 => pf_let (V75 90 2) fun y86 => pf_let (V75 90 3) fun y89 => pf_let (V75 90 4) fun y92 => pf_let (V75 90 37) fun y95 => (if ¬ (y77 = 0) then (pf_val ((0 : Int), V0) (fun (q : Int) => match q with | x99 => ((if y7 ≤ x99 then (pf_call (F_X12_number 0 99 V75) fun y112 V110 => pf_let (V110 90 2) fun y121 => pf_let (V110 90 3) fun y124 => pf_let (V110 90 4) fun y127 => pf_let (V110 90 37) fun y130 => (if ¬ (y112 = 0) then (pf_let ((pm_up (pm_up (pm_up (pm_up (pm_up (pm_up V110 92 (y7 : Int).toNat y51) 93 ((3 * y7) : Int).toNat y95) 93 (((3 * y7) + 1) : Int).toNat y130) 93 (((3 * y7) + 2) : Int).toNat 1) 94 (y7 : Int).toNat 0) 90 6 (y7 + 1))) fun V137 => pf_call (F_X12_closes  V137) fun y154 V152 => pf_let (V152 90 2) fun y167 => pf_let (V152 90 3) fun y170 => pf_let (V152 90 4) fun y173 => (.inr (y154, V152))) else ((.inr (0, V110))))) else ((if ¬ (y89 = 2) then (pf_let (x99 + 1) fun x177 => (.inl x177)) else (pf_let (V75 93 ((3 * x99) : Int).toNat) fun y180 => (if ¬ (y180 = y95) then (pf_let (x99 + 1) fun x184 => (.inl x184)) else (pf_let (V75 93 (((3 * x99) + 1) : Int).toNat) fun y186 => pf_let (V75 90 5) fun y189 => pf_let (pm_cmp y186 y189) fun y192 => (if ¬ (y192 = 0) then (pf_let (x99 + 1) fun x195 => (.inl x195)) else ((.inr (0, V75)))))))))))) 0) else ((0, V75)))) else ((0, V18)))))) else (pf_let (V0 90 3) fun y197 => pf_let (V0 90 4) fun y200 => (0, V0))) := rfl
noncomputable def F_X12_sceneLine (V0 : pm_M) : Int × pm_M := pf_let (V0 90 1) fun y1 => pf_let (V0 90 2) fun y4 => pf_call (F_X12_isWord 0 V0) fun y10 _ => (if y10 = 0 then (pf_call (F_X12_isWord 1 V0) fun y17 _ => (if y17 = 0 then (pf_call (F_X12_isWord 2 V0) fun y24 _ => (if y24 = 0 then (pf_call (F_X12_isWord 3 V0) fun y31 _ => (if y31 = 0 then (pf_call (F_X12_isWord 4 V0) fun y38 _ => (if y38 = 0 then (pf_call (F_X12_isWord 5 V0) fun y45 _ => (if y45 = 0 then (pf_let (V0 90 3) fun y49 => pf_let (V0 90 4) fun y52 => (0, V0)) else (pf_let (V0 90 3) fun y55 => pf_let (V0 90 4) fun y58 => pf_call (F_X12_learnLine  V0) fun y64 V62 => pf_let (V62 90 2) fun y72 => pf_let (V62 90 3) fun y75 => pf_let (V62 90 4) fun y78 => (if y64 = 0 then ((0, V62)) else ((1, V62)))))) else (pf_let (V0 90 3) fun y82 => pf_let (V0 90 4) fun y85 => pf_call (F_X12_holdLine  V0) fun y91 V89 => pf_let (V89 90 2) fun y99 => pf_let (V89 90 3) fun y102 => pf_let (V89 90 4) fun y105 => (y91, V89)))) else (pf_let (V0 90 3) fun y108 => pf_let (V0 90 4) fun y111 => pf_call (F_X12_oddsLine  V0) fun y117 V115 => pf_let (V115 90 2) fun y125 => pf_let (V115 90 3) fun y128 => pf_let (V115 90 4) fun y131 => (y117, V115)))) else (pf_let (V0 90 3) fun y134 => pf_let (V0 90 4) fun y137 => pf_call (F_X12_spanLine_d2  V0) fun y143 V141 => pf_let (V141 90 2) fun y151 => pf_let (V141 90 3) fun y154 => pf_let (V141 90 4) fun y157 => (y143, V141)))) else (pf_let (V0 90 3) fun y160 => pf_let (V0 90 4) fun y163 => pf_call (F_X12_spanLine_d0  V0) fun y169 V167 => pf_let (V167 90 2) fun y177 => pf_let (V167 90 3) fun y180 => pf_let (V167 90 4) fun y183 => (y169, V167)))) else (pf_let (V0 90 3) fun y186 => pf_let (V0 90 4) fun y189 => pf_call (F_X12_soundLine  V0) fun y195 V193 => pf_let (V193 90 2) fun y203 => pf_let (V193 90 3) fun y206 => pf_let (V193 90 4) fun y209 => (y195, V193)))
theorem F_X12_sceneLine_eq (V0 : pm_M) : F_X12_sceneLine V0 = pf_let (V0 90 1) fun y1 => pf_let (V0 90 2) fun y4 => pf_call (F_X12_isWord 0 V0) fun y10 _ => (if y10 = 0 then (pf_call (F_X12_isWord 1 V0) fun y17 _ => (if y17 = 0 then (pf_call (F_X12_isWord 2 V0) fun y24 _ => (if y24 = 0 then (pf_call (F_X12_isWord 3 V0) fun y31 _ => (if y31 = 0 then (pf_call (F_X12_isWord 4 V0) fun y38 _ => (if y38 = 0 then (pf_call (F_X12_isWord 5 V0) fun y45 _ => (if y45 = 0 then (pf_let (V0 90 3) fun y49 => pf_let (V0 90 4) fun y52 => (0, V0)) else (pf_let (V0 90 3) fun y55 => pf_let (V0 90 4) fun y58 => pf_call (F_X12_learnLine  V0) fun y64 V62 => pf_let (V62 90 2) fun y72 => pf_let (V62 90 3) fun y75 => pf_let (V62 90 4) fun y78 => (if y64 = 0 then ((0, V62)) else ((1, V62)))))) else (pf_let (V0 90 3) fun y82 => pf_let (V0 90 4) fun y85 => pf_call (F_X12_holdLine  V0) fun y91 V89 => pf_let (V89 90 2) fun y99 => pf_let (V89 90 3) fun y102 => pf_let (V89 90 4) fun y105 => (y91, V89)))) else (pf_let (V0 90 3) fun y108 => pf_let (V0 90 4) fun y111 => pf_call (F_X12_oddsLine  V0) fun y117 V115 => pf_let (V115 90 2) fun y125 => pf_let (V115 90 3) fun y128 => pf_let (V115 90 4) fun y131 => (y117, V115)))) else (pf_let (V0 90 3) fun y134 => pf_let (V0 90 4) fun y137 => pf_call (F_X12_spanLine_d2  V0) fun y143 V141 => pf_let (V141 90 2) fun y151 => pf_let (V141 90 3) fun y154 => pf_let (V141 90 4) fun y157 => (y143, V141)))) else (pf_let (V0 90 3) fun y160 => pf_let (V0 90 4) fun y163 => pf_call (F_X12_spanLine_d0  V0) fun y169 V167 => pf_let (V167 90 2) fun y177 => pf_let (V167 90 3) fun y180 => pf_let (V167 90 4) fun y183 => (y169, V167)))) else (pf_let (V0 90 3) fun y186 => pf_let (V0 90 4) fun y189 => pf_call (F_X12_soundLine  V0) fun y195 V193 => pf_let (V193 90 2) fun y203 => pf_let (V193 90 3) fun y206 => pf_let (V193 90 4) fun y209 => (y195, V193))) := rfl
noncomputable def F_X12_sceneFault (V0 : pm_M) : Int × pm_M := pf_let ((pm_up (pm_up (pm_up (pm_up (pm_up (pm_up V0 90 6 0) 90 13 0) 95 (0 : Int).toNat (-1)) 95 (2 : Int).toNat (-1)) 90 11 (-1)) 90 2 0)) fun V2 => pf_let (V2 90 1) fun y11 => pf_let (V2 90 3) fun y15 => pf_let (V2 90 4) fun y18 => pf_call (F_X12_leads  V2) fun _ V22 => pf_let (V22 90 2) fun y34 => pf_let (V22 90 3) fun y37 => pf_let (V22 90 4) fun y40 => pf_val ((0 : Int), V0) (fun (q : pm_M) => match q with | V44 => (pf_let (V44 90 3) fun y57 => (if y57 = 0 then (pf_let (V44 90 6) fun y61 => (if y61 < 2 then (pf_let (V44 90 4) fun y65 => (.inr (y65, V44))) else (pf_let (V44 95 (0 : Int).toNat) fun y68 => (if y68 = (-1) then (pf_let (V44 90 4) fun y72 => (.inr (y72, V44))) else (pf_let (V44 95 (2 : Int).toNat) fun y75 => (if ¬ (y75 = (-1)) then ((.inr ((-1), V44))) else (pf_let (V44 90 4) fun y79 => (.inr (y79, V44))))))))) else (pf_let (V44 90 2) fun y82 => pf_let (V44 90 4) fun y85 => pf_call (F_X12_sceneLine  V44) fun y91 V89 => pf_let (V89 90 2) fun y100 => pf_let (V89 90 3) fun y103 => pf_let (V89 90 4) fun y106 => (if ¬ (y91 = 0) then ((.inl V89)) else ((.inr (y106, V89)))))))) V22
theorem F_X12_sceneFault_eq (V0 : pm_M) : F_X12_sceneFault V0 = pf_let ((pm_up (pm_up (pm_up (pm_up (pm_up (pm_up V0 90 6 0) 90 13 0) 95 (0 : Int).toNat (-1)) 95 (2 : Int).toNat (-1)) 90 11 (-1)) 90 2 0)) fun V2 => pf_let (V2 90 1) fun y11 => pf_let (V2 90 3) fun y15 => pf_let (V2 90 4) fun y18 => pf_call (F_X12_leads  V2) fun _ V22 => pf_let (V22 90 2) fun y34 => pf_let (V22 90 3) fun y37 => pf_let (V22 90 4) fun y40 => pf_val ((0 : Int), V0) (fun (q : pm_M) => match q with | V44 => (pf_let (V44 90 3) fun y57 => (if y57 = 0 then (pf_let (V44 90 6) fun y61 => (if y61 < 2 then (pf_let (V44 90 4) fun y65 => (.inr (y65, V44))) else (pf_let (V44 95 (0 : Int).toNat) fun y68 => (if y68 = (-1) then (pf_let (V44 90 4) fun y72 => (.inr (y72, V44))) else (pf_let (V44 95 (2 : Int).toNat) fun y75 => (if ¬ (y75 = (-1)) then ((.inr ((-1), V44))) else (pf_let (V44 90 4) fun y79 => (.inr (y79, V44))))))))) else (pf_let (V44 90 2) fun y82 => pf_let (V44 90 4) fun y85 => pf_call (F_X12_sceneLine  V44) fun y91 V89 => pf_let (V89 90 2) fun y100 => pf_let (V89 90 3) fun y103 => pf_let (V89 90 4) fun y106 => (if ¬ (y91 = 0) then ((.inl V89)) else ((.inr (y106, V89)))))))) V22 := rfl
set_option maxHeartbeats 4000000 in
set_option maxRecDepth 100000 in
theorem fP_X12_named  : pm_K 7 yX12_named cX12_named 2 (some .int) (fun av V => av = [(3, 90)] ∧ pm_oq pm_qP V) (fun _ V r V' => ∃ y, r = some (0, y) ∧ ((-1) ≤ y ∧ y ≤ 8) ∧ V = V' ∧ F_X12_named  V = (y, V)) := by
  refine pm_MT.of (by decide) ⟨Nat.le_refl _, by decide⟩ (fun av V h => by rw [h.1]; exact (by decide : pm_words [(3, 0)] ≤ 2)) ?_
  rintro X av V0 hC - hR ⟨rfl, hV0⟩
  change pm_J X 0 [(0, (3, 90))] [] 118 V0
  have hT := F_X12_named_eq  V0
  refine pm_iconst (v := 0) hC dX12_named_0 ?_
  refine pm_istore_n (lv' := [(1, (0, 0)), (0, (3, 90))]) hC dX12_named_1 (by decide) rfl ?_
  obtain ⟨B3, hB4, hT⟩ := pf_loop hT
  have L6 : ∀ (N8 : Nat) (x1 : Int), (0 ≤ x1 ∧ x1 ≤ 9) → F_X12_named  V0 = pf_val ((0 : Int), V0) B3 x1 → (Int.toNat (9 - x1)) = N8 → pm_J X 2 [(0, (3, 90)), (1, (0, x1))] [] 118 V0 := by
    intro N8
    induction N8 using Nat.strongRecOn with
    | _ N8 ih9 =>
    intro x1 b2 hT hm7
    have hb5 := congrFun hB4 x1
    refine pm_iload_n hC 1 dX12_named_2 rfl ?_
    refine pm_aload_n hC 0 (by decide) dX12_named_3 rfl ?_
    obtain ⟨y10, e11⟩ : ∃ y, V0 90 6 = y := ⟨_, rfl⟩
    have b12 := hV0.get 90 6 (lo := 0) (hi := 9) (by decide) (by decide) rfl
    rw [e11] at b12
    replace hb5 := hb5.trans (pf_let_eq e11)
    refine pm_getf (v := y10) hC 90 fl_X12_169 rfl rfl (by decide) rfl e11 dX12_named_4 ?_
    refine pm_icmp_ge (tgt := 39) hC ⟨by omega, by omega⟩ ⟨by omega, by omega⟩ dX12_named_7 (by decide) (fun c13 => ?_) (fun c13 => ?_)
    · skip
      replace hb5 := hb5.trans (if_pos c13)
      refine pm_iconst (v := (-1)) hC dX12_named_39 ?_
      have hT := hT.trans (pf_val_inr hb5)
      exact pm_iret hC hR pm_nar0 ⟨(-1), rfl, ⟨by omega, by omega⟩, rfl, hT⟩ dX12_named_40
    · skip
      replace hb5 := hb5.trans (if_neg (Int.not_le.mpr c13))
      refine pm_aload_n hC 0 (by decide) dX12_named_10 rfl ?_
      refine pm_callV (ci := 12) (as := []) (st := []) hC 90 fP_X12_isName lm_X12_172 li_X12_isName (by decide) (by decide) rfl rfl rfl (by decide) rfl rfl (Nat.le_of_ble_eq_true rfl) ⟨Nat.le_refl _, Or.inl rfl⟩ dX12_named_11 ⟨rfl, hV0⟩ (fun r14 V15 hp16 => ?_)
      obtain ⟨y17, rfl, b18, rfl, hE19⟩ := hp16
      replace hb5 := hb5.trans (pf_call_eq hE19)
      change pm_J X 14 [(0, (3, 90)), (1, (0, x1))] [(0, y17)] 118 V0
      refine pm_if_eq (tgt := 39) hC ⟨by omega, by omega⟩ dX12_named_14 (by decide) (fun c20 => ?_) (fun c20 => ?_)
      · skip
        replace hb5 := hb5.trans (if_pos c20)
        refine pm_iconst (v := (-1)) hC dX12_named_39 ?_
        have hT := hT.trans (pf_val_inr hb5)
        exact pm_iret hC hR pm_nar0 ⟨(-1), rfl, ⟨by omega, by omega⟩, rfl, hT⟩ dX12_named_40
      · skip
        replace hb5 := hb5.trans (if_neg c20)
        refine pm_aload_n hC 0 (by decide) dX12_named_17 rfl ?_
        have e21 : V0 90 7 = 92 := hV0.one 90 7 (by decide) (by decide) rfl
        refine pm_getf (v := 92) hC 90 fl_X12_13 rfl rfl (by decide) rfl e21 dX12_named_18 ?_
        refine pm_iload_n hC 1 dX12_named_21 rfl ?_
        obtain ⟨y22, e23⟩ : ∃ y, V0 92 (x1 : Int).toNat = y := ⟨_, rfl⟩
        replace hb5 := hb5.trans (pf_let_eq e23)
        have b24 := hV0.get 92 (x1 : Int).toNat (lo := (-9223372036854775808)) (hi := 9223372036854775807) (t := 0) (by decide) (show _ < 9 by omega) rfl
        rw [e23] at b24
        refine pm_laload (len := 9) (v := y22) hC 92 rfl rfl (by decide) ⟨by omega, by omega⟩ (by decide) e23 dX12_named_22 ?_
        refine pm_aload_n hC 0 (by decide) dX12_named_23 rfl ?_
        obtain ⟨y25, e26⟩ : ∃ y, V0 90 5 = y := ⟨_, rfl⟩
        have b27 := hV0.get 90 5 (lo := (-9223372036854775808)) (hi := 9223372036854775807) (by decide) (by decide) rfl
        rw [e26] at b27
        replace hb5 := hb5.trans (pf_let_eq e26)
        refine pm_getf (v := y25) hC 90 fl_X12_108 rfl rfl (by decide) rfl e26 dX12_named_24 ?_
        refine pm_lcmp hC ⟨by omega, by omega⟩ ⟨by omega, by omega⟩ dX12_named_27 (fun y28 b29 => ?_)
        replace hb5 := hb5.trans (pf_let_eq (pm_cmp_u b29))
        refine pm_if_ne (tgt := 33) hC ⟨by omega, by omega⟩ dX12_named_28 (by decide) (fun c30 => ?_) (fun c30 => ?_)
        · skip
          replace hb5 := hb5.trans (if_pos c30)
          obtain ⟨x31, ei32⟩ : ∃ y : Int, x1 + 1 = y := ⟨_, rfl⟩
          replace hb5 := hb5.trans (pf_let_eq ei32)
          refine pm_iinc (y := x31) (lv' := [(1, (0, x31)), (0, (3, 90))]) hC 1 dX12_named_33 (by decide) rfl ei32 rfl ?_
          refine pm_goto (tgt := 2) hC dX12_named_36 (by decide) ?_
          refine pm_lvsub [1, 0] (lv' := [(0, (3, 90)), (1, (0, x31))]) rfl ?_
          exact ih9 _ (by omega) x31 ⟨by omega, by omega⟩ (hT.trans (pf_val_inl hb5)) rfl
        · skip
          replace hb5 := hb5.trans (if_neg (fun q => q c30))
          refine pm_iload_n hC 1 dX12_named_31 rfl ?_
          have hT := hT.trans (pf_val_inr hb5)
          exact pm_iret hC hR pm_nar0 ⟨x1, rfl, ⟨by omega, by omega⟩, rfl, hT⟩ dX12_named_32
  refine pm_lvsub [1, 0] (lv' := [(0, (3, 90)), (1, (0, 0))]) rfl ?_
  exact L6 _ 0 ⟨by decide, by decide⟩ hT rfl
set_option maxHeartbeats 4000000 in
set_option maxRecDepth 100000 in
theorem fP_X12_closes  : pm_K 3 yX12_closes cX12_closes 1 (some .boolean) (fun av V => av = [(3, 90)] ∧ pm_oq pm_qP V ∧ pm_az V) (fun _ V r V' => ∃ y, r = some (0, y) ∧ (0 ≤ y ∧ y ≤ 1 ∧ (y = 1 → V' 90 3 ≤ 5 * (V' 90 2 - V 90 2)) ∧ (V 90 2 ≤ V' 90 2)) ∧ pm_oq pm_qP V' ∧ pm_fs [] [2, 3, 4, 5] V V' ∧ pm_az V' ∧ F_X12_closes  V = (y, V')) := by
  refine pm_MT.of (by decide) ⟨Nat.le_refl _, by decide⟩ (fun av V h => by rw [h.1]; exact (by decide : pm_words [(3, 0)] ≤ 1)) ?_
  rintro X av V0 hC - hR ⟨rfl, hV0, hn_pm_az⟩
  change pm_J X 0 [(0, (3, 90))] [] 118 V0
  have hT := F_X12_closes_eq  V0
  obtain ⟨y1, e2⟩ : ∃ y, V0 90 1 = y := ⟨_, rfl⟩
  have b3 := hV0.get 90 1 (lo := 0) (hi := 500) (by decide) (by decide) rfl
  rw [e2] at b3
  replace hT := hT.trans (pf_let_eq e2)
  obtain ⟨y4, e5⟩ : ∃ y, V0 90 2 = y := ⟨_, rfl⟩
  have b6 := hV0.get 90 2 (lo := 0) (hi := 500) (by decide) (by decide) rfl
  rw [e5] at b6
  replace hT := hT.trans (pf_let_eq e5)
  have hsz := hn_pm_az
  unfold pm_az at hsz
  rw [e5, e2] at hsz
  refine pm_aload_n hC 0 (by decide) dX12_closes_0 rfl ?_
  refine pm_bipush (v := 59) hC dX12_closes_1 (by decide) ?_
  refine pm_callV (ci := 12) (as := [(0, 59)]) (st := []) hC 90 (fP_X12_isSign 59 ⟨by decide, by decide⟩) lm_X12_145 li_X12_isSign (by decide) (by decide) rfl rfl rfl (by decide) rfl rfl (Nat.le_of_ble_eq_true rfl) ⟨Nat.le_refl _, Or.inl rfl⟩ dX12_closes_3 ⟨rfl, hV0⟩ (fun r7 V8 hp9 => ?_)
  obtain ⟨y10, rfl, b11, rfl, hE12⟩ := hp9
  replace hT := hT.trans (pf_call_eq hE12)
  change pm_J X 6 [(0, (3, 90))] [(0, y10)] 118 V0
  refine pm_if_ne (tgt := 11) hC ⟨by omega, by omega⟩ dX12_closes_6 (by decide) (fun c13 => ?_) (fun c13 => ?_)
  · skip
    replace hT := hT.trans (if_pos c13)
    refine pm_aload_n hC 0 (by decide) dX12_closes_11 rfl ?_
    obtain ⟨y14, e15⟩ : ∃ y, V0 90 3 = y := ⟨_, rfl⟩
    have b16 := hV0.get 90 3 (lo := 0) (hi := 4) (by decide) (by decide) rfl
    rw [e15] at b16
    replace hT := hT.trans (pf_let_eq e15)
    obtain ⟨y17, e18⟩ : ∃ y, V0 90 4 = y := ⟨_, rfl⟩
    have b19 := hV0.get 90 4 (lo := 0) (hi := 500) (by decide) (by decide) rfl
    rw [e18] at b19
    replace hT := hT.trans (pf_let_eq e18)
    refine pm_callV (ci := 12) (as := []) (st := []) hC 90 fP_X12_leads lm_X12_148 li_X12_leads (by decide) (by decide) rfl rfl rfl (by decide) rfl rfl (Nat.le_of_ble_eq_true rfl) ⟨Nat.le_refl _, Or.inl rfl⟩ dX12_closes_12 ⟨rfl, hV0, hn_pm_az⟩ (fun r20 V21 hp22 => ?_)
    obtain ⟨rfl, hV23, hF24, hg25, hE26⟩ := hp22
    replace hT := hT.trans (pf_call_eq hE26)
    change pm_J X 15 [(0, (3, 90))] [] 118 V21
    have hF27 := pm_fs.tr (pm_fs.rf (cs := []) (fs := [2, 3, 4, 5]) (V := V0)) hF24 (by decide) (by decide)
    have e28 : V21 90 1 = y1 := by rw [hF24.2 1 (by decide)]; exact e2
    obtain ⟨y29, e30⟩ : ∃ y, V21 90 2 = y := ⟨_, rfl⟩
    have b31 := hV23.get 90 2 (lo := 0) (hi := 500) (by decide) (by decide) rfl
    rw [e30] at b31
    replace hT := hT.trans (pf_let_eq e30)
    obtain ⟨y32, e33⟩ : ∃ y, V21 90 3 = y := ⟨_, rfl⟩
    have b34 := hV23.get 90 3 (lo := 0) (hi := 4) (by decide) (by decide) rfl
    rw [e33] at b34
    replace hT := hT.trans (pf_let_eq e33)
    obtain ⟨y35, e36⟩ : ∃ y, V21 90 4 = y := ⟨_, rfl⟩
    have b37 := hV23.get 90 4 (lo := 0) (hi := 500) (by decide) (by decide) rfl
    rw [e36] at b37
    replace hT := hT.trans (pf_let_eq e36)
    have hpr38 := r_leads_pr hV0 hn_pm_az hE26
    refine pm_iconst (v := 1) hC dX12_closes_15 ?_
    exact pm_iret hC hR (pm_narZ (by omega)) ⟨1, rfl, ⟨by omega, by omega, by omega, by omega⟩, hV23, hF27, hg25, hT⟩ dX12_closes_16
  · skip
    replace hT := hT.trans (if_neg (fun q => q c13))
    refine pm_iconst (v := 0) hC dX12_closes_9 ?_
    obtain ⟨y39, e40⟩ : ∃ y, V0 90 3 = y := ⟨_, rfl⟩
    have b41 := hV0.get 90 3 (lo := 0) (hi := 4) (by decide) (by decide) rfl
    rw [e40] at b41
    replace hT := hT.trans (pf_let_eq e40)
    obtain ⟨y42, e43⟩ : ∃ y, V0 90 4 = y := ⟨_, rfl⟩
    have b44 := hV0.get 90 4 (lo := 0) (hi := 500) (by decide) (by decide) rfl
    rw [e43] at b44
    replace hT := hT.trans (pf_let_eq e43)
    exact pm_iret hC hR (pm_narZ (by omega)) ⟨0, rfl, ⟨by omega, by omega, by omega, by omega⟩, hV0, (pm_fs.rf (cs := []) (fs := [2, 3, 4, 5]) (V := V0)), hn_pm_az, hT⟩ dX12_closes_10
set_option maxHeartbeats 4000000 in
set_option maxRecDepth 100000 in
theorem fP_X12_learnLine  : pm_K 8 yX12_learnLine cX12_learnLine 4 (some .boolean) (fun av V => av = [(3, 90)] ∧ pm_oq pm_qP V ∧ pm_az V) (fun _ V r V' => ∃ y, r = some (0, y) ∧ (0 ≤ y ∧ y ≤ 1 ∧ (y = 1 → V' 90 3 ≤ 5 * (V' 90 2 - V 90 2)) ∧ (V 90 2 ≤ V' 90 2)) ∧ pm_oq pm_qP V' ∧ pm_fs [96] [2, 3, 4, 5, 13] V V' ∧ pm_az V' ∧ F_X12_learnLine  V = (y, V')) := by
  refine pm_MT.of (by decide) ⟨Nat.le_refl _, by decide⟩ (fun av V h => by rw [h.1]; exact (by decide : pm_words [(3, 0)] ≤ 4)) ?_
  rintro X av V0 hC - hR ⟨rfl, hV0, hn_pm_az⟩
  change pm_J X 0 [(0, (3, 90))] [] 118 V0
  have hT := F_X12_learnLine_eq  V0
  obtain ⟨y1, e2⟩ : ∃ y, V0 90 1 = y := ⟨_, rfl⟩
  have b3 := hV0.get 90 1 (lo := 0) (hi := 500) (by decide) (by decide) rfl
  rw [e2] at b3
  replace hT := hT.trans (pf_let_eq e2)
  obtain ⟨y4, e5⟩ : ∃ y, V0 90 2 = y := ⟨_, rfl⟩
  have b6 := hV0.get 90 2 (lo := 0) (hi := 500) (by decide) (by decide) rfl
  rw [e5] at b6
  replace hT := hT.trans (pf_let_eq e5)
  have hsz := hn_pm_az
  unfold pm_az at hsz
  rw [e5, e2] at hsz
  refine pm_aload_n hC 0 (by decide) dX12_learnLine_0 rfl ?_
  obtain ⟨y7, e8⟩ : ∃ y, V0 90 13 = y := ⟨_, rfl⟩
  have b9 := hV0.get 90 13 (lo := 0) (hi := 12) (by decide) (by decide) rfl
  rw [e8] at b9
  replace hT := hT.trans (pf_let_eq e8)
  refine pm_getf (v := y7) hC 90 fl_X12_192 rfl rfl (by decide) rfl e8 dX12_learnLine_1 ?_
  refine pm_bipush (v := 12) hC dX12_learnLine_4 (by decide) ?_
  refine pm_icmp_ne (tgt := 11) hC ⟨by omega, by omega⟩ ⟨by decide, by decide⟩ dX12_learnLine_6 (by decide) (fun c10 => ?_) (fun c10 => ?_)
  · skip
    replace hT := hT.trans (if_pos c10)
    refine pm_iconst (v := 3) hC dX12_learnLine_11 ?_
    refine pm_aload_n hC 0 (by decide) dX12_learnLine_12 rfl ?_
    refine pm_getf (v := y7) hC 90 fl_X12_192 rfl rfl (by decide) rfl e8 dX12_learnLine_13 ?_
    refine pm_imul hC dX12_learnLine_16 ?_
    refine pm_istore_n (lv' := [(1, (0, (3 * y7))), (0, (3, 90))]) hC dX12_learnLine_17 (by decide) rfl ?_
    refine pm_iconst (v := 0) hC dX12_learnLine_18 ?_
    refine pm_istore_n (lv' := [(2, (0, 0)), (1, (0, (3 * y7))), (0, (3, 90))]) hC dX12_learnLine_19 (by decide) rfl ?_
    obtain ⟨B20, hB21, hT⟩ := pf_loop hT
    have L23 : ∀ (N25 : Nat) (x11 : Int) (V13 : pm_M), (0 ≤ x11 ∧ x11 ≤ 3) → pm_oq pm_qP V13 → pm_fs [96] [2, 3, 4, 5, 13] V0 V13 → V13 90 1 = y1 → V13 90 13 = y7 → pm_az V13 → (V0 90 2 ≤ V13 90 2) → F_X12_learnLine  V0 = pf_val ((0 : Int), V0) B20 (x11, V13) → (Int.toNat (3 - x11)) = N25 → pm_J X 20 [(0, (3, 90)), (1, (0, (3 * y7))), (2, (0, x11))] [] 118 V13 := by
      intro N25
      induction N25 using Nat.strongRecOn with
      | _ N25 ih26 =>
      intro x11 V13 b12 hV14 hF15 e16 e17 hp18 hm19 hT hm24
      have hb22 := congrFun hB21 (x11, V13)
      refine pm_iload_n hC 2 dX12_learnLine_20 rfl ?_
      refine pm_iconst (v := 3) hC dX12_learnLine_21 ?_
      refine pm_icmp_ge (tgt := 122) hC ⟨by omega, by omega⟩ ⟨by decide, by decide⟩ dX12_learnLine_22 (by decide) (fun c27 => ?_) (fun c27 => ?_)
      · skip
        replace hb22 := hb22.trans (if_pos c27)
        refine pm_aload_n hC 0 (by decide) dX12_learnLine_122 rfl ?_
        obtain ⟨y28, e29⟩ : ∃ y, V13 90 2 = y := ⟨_, rfl⟩
        have b30 := hV14.get 90 2 (lo := 0) (hi := 500) (by decide) (by decide) rfl
        rw [e29] at b30
        replace hb22 := hb22.trans (pf_let_eq e29)
        obtain ⟨y31, e32⟩ : ∃ y, V13 90 3 = y := ⟨_, rfl⟩
        have b33 := hV14.get 90 3 (lo := 0) (hi := 4) (by decide) (by decide) rfl
        rw [e32] at b33
        replace hb22 := hb22.trans (pf_let_eq e32)
        obtain ⟨y34, e35⟩ : ∃ y, V13 90 4 = y := ⟨_, rfl⟩
        have b36 := hV14.get 90 4 (lo := 0) (hi := 500) (by decide) (by decide) rfl
        rw [e35] at b36
        replace hb22 := hb22.trans (pf_let_eq e35)
        refine pm_callV (ci := 12) (as := []) (st := []) hC 90 fP_X12_leads lm_X12_148 li_X12_leads (by decide) (by decide) rfl rfl rfl (by decide) rfl rfl (Nat.le_of_ble_eq_true rfl) ⟨Nat.le_refl _, Or.inl rfl⟩ dX12_learnLine_123 ⟨rfl, hV14, hp18⟩ (fun r37 V38 hp39 => ?_)
        obtain ⟨rfl, hV40, hF41, hg42, hE43⟩ := hp39
        replace hb22 := hb22.trans (pf_call_eq hE43)
        change pm_J X 126 [(0, (3, 90)), (1, (0, (3 * y7))), (2, (0, x11))] [] 118 V38
        have hF44 := pm_fs.tr hF15 hF41 (by decide) (by decide)
        have e45 : V38 90 1 = y1 := by rw [hF41.2 1 (by decide)]; exact e16
        have e46 : V38 90 13 = y7 := by rw [hF41.2 13 (by decide)]; exact e17
        obtain ⟨y47, e48⟩ : ∃ y, V38 90 2 = y := ⟨_, rfl⟩
        have b49 := hV40.get 90 2 (lo := 0) (hi := 500) (by decide) (by decide) rfl
        rw [e48] at b49
        replace hb22 := hb22.trans (pf_let_eq e48)
        obtain ⟨y50, e51⟩ : ∃ y, V38 90 3 = y := ⟨_, rfl⟩
        have b52 := hV40.get 90 3 (lo := 0) (hi := 4) (by decide) (by decide) rfl
        rw [e51] at b52
        replace hb22 := hb22.trans (pf_let_eq e51)
        obtain ⟨y53, e54⟩ : ∃ y, V38 90 4 = y := ⟨_, rfl⟩
        have b55 := hV40.get 90 4 (lo := 0) (hi := 500) (by decide) (by decide) rfl
        rw [e54] at b55
        replace hb22 := hb22.trans (pf_let_eq e54)
        have hpr56 := r_leads_pr hV14 hp18 hE43
        refine pm_aload_n hC 0 (by decide) dX12_learnLine_126 rfl ?_
        refine pm_dup hC rfl dX12_learnLine_127 ?_
        refine pm_getf (v := y7) hC 90 fl_X12_192 rfl rfl (by decide) rfl e46 dX12_learnLine_128 ?_
        refine pm_iconst (v := 1) hC dX12_learnLine_131 ?_
        refine pm_iadd hC dX12_learnLine_132 ?_
        refine pm_putf hC 90 fl_X12_192 rfl rfl rfl (by decide) rfl trivial dX12_learnLine_133 ?_
        refine pm_aload_n hC 0 (by decide) dX12_learnLine_136 rfl ?_
        have hV59 := (hV40.put 90 13 (x := (y7 + 1)) (lo := 0) (hi := 12) rfl ⟨by omega, by omega⟩)
        have hF60 := (hF44.upf 13 (y7 + 1) rfl)
        obtain ⟨V57, hv58⟩ : ∃ V, V = (pm_up V38 90 13 (y7 + 1)) := ⟨_, rfl⟩
        rw [← hv58] at hV59 hF60
        rw [← hv58]
        replace hb22 := hb22.trans (pf_let_eq hv58.symm)
        have e61 : V57 90 1 = y1 := by rw [hv58]; exact e45
        have e62 : V57 90 2 = y47 := by rw [hv58]; exact e48
        have e63 : V57 90 3 = y50 := by rw [hv58]; exact e51
        have e64 : V57 90 4 = y53 := by rw [hv58]; exact e54
        have e65 : V57 90 13 = (y7 + 1) := by rw [hv58]; rfl
        have hp66 : pm_az V57 := by rw [hv58]; exact (pm_az.fr hg42 rfl rfl)
        refine pm_callV (ci := 12) (as := []) (st := []) hC 90 fP_X12_closes lm_X12_183 li_X12_closes (by decide) (by decide) rfl rfl rfl (by decide) rfl rfl (Nat.le_of_ble_eq_true rfl) ⟨Nat.le_refl _, Or.inl rfl⟩ dX12_learnLine_137 ⟨rfl, hV59, hp66⟩ (fun r67 V68 hp69 => ?_)
        obtain ⟨y70, rfl, b71, hV72, hF73, hg74, hE75⟩ := hp69
        replace hb22 := hb22.trans (pf_call_eq hE75)
        change pm_J X 140 [(0, (3, 90)), (1, (0, (3 * y7))), (2, (0, x11))] [(0, y70)] 118 V68
        have hF76 := pm_fs.tr hF60 hF73 (by decide) (by decide)
        have e77 : V68 90 1 = y1 := by rw [hF73.2 1 (by decide)]; exact e61
        have e78 : V68 90 13 = (y7 + 1) := by rw [hF73.2 13 (by decide)]; exact e65
        obtain ⟨y79, e80⟩ : ∃ y, V68 90 2 = y := ⟨_, rfl⟩
        have b81 := hV72.get 90 2 (lo := 0) (hi := 500) (by decide) (by decide) rfl
        rw [e80] at b81
        replace hb22 := hb22.trans (pf_let_eq e80)
        obtain ⟨y82, e83⟩ : ∃ y, V68 90 3 = y := ⟨_, rfl⟩
        have b84 := hV72.get 90 3 (lo := 0) (hi := 4) (by decide) (by decide) rfl
        rw [e83] at b84
        replace hb22 := hb22.trans (pf_let_eq e83)
        obtain ⟨y85, e86⟩ : ∃ y, V68 90 4 = y := ⟨_, rfl⟩
        have b87 := hV72.get 90 4 (lo := 0) (hi := 500) (by decide) (by decide) rfl
        rw [e86] at b87
        replace hb22 := hb22.trans (pf_let_eq e86)
        have hT := hT.trans (pf_val_inr hb22)
        exact pm_iret hC hR (pm_narZ (by omega)) ⟨y70, rfl, ⟨by omega, by omega, by omega, by omega⟩, hV72, hF76, hg74, hT⟩ dX12_learnLine_140
      · skip
        replace hb22 := hb22.trans (if_neg (Int.not_le.mpr c27))
        refine pm_aload_n hC 0 (by decide) dX12_learnLine_25 rfl ?_
        obtain ⟨y88, e89⟩ : ∃ y, V13 90 2 = y := ⟨_, rfl⟩
        have b90 := hV14.get 90 2 (lo := 0) (hi := 500) (by decide) (by decide) rfl
        rw [e89] at b90
        replace hb22 := hb22.trans (pf_let_eq e89)
        obtain ⟨y91, e92⟩ : ∃ y, V13 90 3 = y := ⟨_, rfl⟩
        have b93 := hV14.get 90 3 (lo := 0) (hi := 4) (by decide) (by decide) rfl
        rw [e92] at b93
        replace hb22 := hb22.trans (pf_let_eq e92)
        obtain ⟨y94, e95⟩ : ∃ y, V13 90 4 = y := ⟨_, rfl⟩
        have b96 := hV14.get 90 4 (lo := 0) (hi := 500) (by decide) (by decide) rfl
        rw [e95] at b96
        replace hb22 := hb22.trans (pf_let_eq e95)
        refine pm_callV (ci := 12) (as := []) (st := []) hC 90 fP_X12_leads lm_X12_148 li_X12_leads (by decide) (by decide) rfl rfl rfl (by decide) rfl rfl (Nat.le_of_ble_eq_true rfl) ⟨Nat.le_refl _, Or.inl rfl⟩ dX12_learnLine_26 ⟨rfl, hV14, hp18⟩ (fun r97 V98 hp99 => ?_)
        obtain ⟨rfl, hV100, hF101, hg102, hE103⟩ := hp99
        replace hb22 := hb22.trans (pf_call_eq hE103)
        change pm_J X 29 [(0, (3, 90)), (1, (0, (3 * y7))), (2, (0, x11))] [] 118 V98
        have hF104 := pm_fs.tr hF15 hF101 (by decide) (by decide)
        have e105 : V98 90 1 = y1 := by rw [hF101.2 1 (by decide)]; exact e16
        have e106 : V98 90 13 = y7 := by rw [hF101.2 13 (by decide)]; exact e17
        obtain ⟨y107, e108⟩ : ∃ y, V98 90 2 = y := ⟨_, rfl⟩
        have b109 := hV100.get 90 2 (lo := 0) (hi := 500) (by decide) (by decide) rfl
        rw [e108] at b109
        replace hb22 := hb22.trans (pf_let_eq e108)
        obtain ⟨y110, e111⟩ : ∃ y, V98 90 3 = y := ⟨_, rfl⟩
        have b112 := hV100.get 90 3 (lo := 0) (hi := 4) (by decide) (by decide) rfl
        rw [e111] at b112
        replace hb22 := hb22.trans (pf_let_eq e111)
        obtain ⟨y113, e114⟩ : ∃ y, V98 90 4 = y := ⟨_, rfl⟩
        have b115 := hV100.get 90 4 (lo := 0) (hi := 500) (by decide) (by decide) rfl
        rw [e114] at b115
        replace hb22 := hb22.trans (pf_let_eq e114)
        have hpr116 := r_leads_pr hV14 hp18 hE103
        refine pm_aload_n hC 0 (by decide) dX12_learnLine_29 rfl ?_
        have e117 : V98 90 14 = 96 := hV100.one 90 14 (by decide) (by decide) rfl
        refine pm_getf (v := 96) hC 90 fl_X12_28 rfl rfl (by decide) rfl e117 dX12_learnLine_30 ?_
        refine pm_iload_n hC 1 dX12_learnLine_33 rfl ?_
        refine pm_iload_n hC 2 dX12_learnLine_34 rfl ?_
        refine pm_iadd hC dX12_learnLine_35 ?_
        refine pm_aload_n hC 0 (by decide) dX12_learnLine_36 rfl ?_
        refine pm_callV (ci := 12) (as := []) (st := [(0, ((3 * y7) + x11)), (3, 96)]) hC 90 fP_X12_named lm_X12_176 li_X12_named (by decide) (by decide) rfl rfl rfl (by decide) rfl rfl (Nat.le_of_ble_eq_true rfl) ⟨Nat.le_refl _, Or.inl rfl⟩ dX12_learnLine_37 ⟨rfl, hV100⟩ (fun r118 V119 hp120 => ?_)
        obtain ⟨y121, rfl, b122, rfl, hE123⟩ := hp120
        replace hb22 := hb22.trans (pf_call_eq hE123)
        change pm_J X 40 [(0, (3, 90)), (1, (0, (3 * y7))), (2, (0, x11))] [(0, y121), (0, ((3 * y7) + x11)), (3, 96)] 118 V98
        refine pm_iastore (len := 36) hC 96 rfl rfl (by decide) ⟨by omega, by omega⟩ (by decide) dX12_learnLine_40 ?_
        refine pm_aload_n hC 0 (by decide) dX12_learnLine_41 rfl ?_
        refine pm_getf (v := 96) hC 90 fl_X12_28 rfl rfl (by decide) rfl e117 dX12_learnLine_42 ?_
        refine pm_iload_n hC 1 dX12_learnLine_45 rfl ?_
        refine pm_iload_n hC 2 dX12_learnLine_46 rfl ?_
        refine pm_iadd hC dX12_learnLine_47 ?_
        have hV126 := (hV100.put 96 (((3 * y7) + x11) : Int).toNat (x := y121) (lo := (-1)) (hi := 8) rfl ⟨by omega, by omega⟩)
        have hF127 := (hF104.up 96 (((3 * y7) + x11) : Int).toNat y121 (by decide) rfl)
        obtain ⟨V124, hv125⟩ : ∃ V, V = (pm_up V98 96 (((3 * y7) + x11) : Int).toNat y121) := ⟨_, rfl⟩
        rw [← hv125] at hV126 hF127
        rw [← hv125]
        replace hb22 := hb22.trans (pf_let_eq hv125.symm)
        have e128 : V124 90 1 = y1 := by rw [hv125]; exact e105
        have e129 : V124 90 13 = y7 := by rw [hv125]; exact e106
        have e130 : V124 90 2 = y107 := by rw [hv125]; exact e108
        have e131 : V124 90 3 = y110 := by rw [hv125]; exact e111
        have e132 : V124 90 4 = y113 := by rw [hv125]; exact e114
        have e133 : V124 90 14 = 96 := by rw [hv125]; exact e117
        have hp134 : pm_az V124 := by rw [hv125]; exact (pm_az.fr hg102 rfl rfl)
        obtain ⟨y135, e136⟩ : ∃ y, V124 96 (((3 * y7) + x11) : Int).toNat = y := ⟨_, rfl⟩
        replace hb22 := hb22.trans (pf_let_eq e136)
        have b137 := hV126.get 96 (((3 * y7) + x11) : Int).toNat (lo := (-1)) (hi := 8) (t := 0) (by decide) (show _ < 36 by omega) rfl
        rw [e136] at b137
        refine pm_iaload (len := 36) (v := y135) hC 96 rfl rfl (by decide) ⟨by omega, by omega⟩ (by decide) e136 dX12_learnLine_48 ?_
        refine pm_iconst (v := (-1)) hC dX12_learnLine_49 ?_
        refine pm_icmp_ne (tgt := 55) hC ⟨by omega, by omega⟩ ⟨by decide, by decide⟩ dX12_learnLine_50 (by decide) (fun c138 => ?_) (fun c138 => ?_)
        · skip
          replace hb22 := hb22.trans (if_pos c138)
          refine pm_iconst (v := 0) hC dX12_learnLine_55 ?_
          refine pm_istore_n (lv' := [(3, (0, 0)), (0, (3, 90)), (1, (0, (3 * y7))), (2, (0, x11))]) hC dX12_learnLine_56 (by decide) rfl ?_
          obtain ⟨B141, hB142, hb22⟩ := pf_loop hb22
          have L144 : ∀ (N146 : Nat) (x139 : Int), (0 ≤ x139 ∧ x139 ≤ 16) → B20 (x11, V13) = pf_val (.inr ((0 : Int), V0)) B141 x139 → (Int.toNat (16 - x139)) = N146 → pm_J X 57 [(0, (3, 90)), (1, (0, (3 * y7))), (2, (0, x11)), (3, (0, x139))] [] 118 V124 := by
            intro N146
            induction N146 using Nat.strongRecOn with
            | _ N146 ih147 =>
            intro x139 b140 hb22 hm145
            have hb143 := congrFun hB142 x139
            refine pm_iload_n hC 3 dX12_learnLine_57 rfl ?_
            refine pm_aload_n hC 0 (by decide) dX12_learnLine_58 rfl ?_
            refine pm_getf (v := y7) hC 90 fl_X12_192 rfl rfl (by decide) rfl e129 dX12_learnLine_59 ?_
            refine pm_icmp_ge (tgt := 116) hC ⟨by omega, by omega⟩ ⟨by omega, by omega⟩ dX12_learnLine_62 (by decide) (fun c148 => ?_) (fun c148 => ?_)
            · skip
              replace hb143 := hb143.trans (if_pos c148)
              obtain ⟨x149, ei150⟩ : ∃ y : Int, x11 + 1 = y := ⟨_, rfl⟩
              replace hb143 := hb143.trans (pf_let_eq ei150)
              refine pm_iinc (y := x149) (lv' := [(2, (0, x149)), (0, (3, 90)), (1, (0, (3 * y7))), (3, (0, x139))]) hC 2 dX12_learnLine_116 (by decide) rfl ei150 rfl ?_
              refine pm_goto (tgt := 20) hC dX12_learnLine_119 (by decide) ?_
              have hb22 := hb22.trans (pf_val_inr hb143)
              refine pm_lvsub [1, 2, 0] (lv' := [(0, (3, 90)), (1, (0, (3 * y7))), (2, (0, x149))]) rfl ?_
              exact ih26 _ (by omega) x149 V124 ⟨by omega, by omega⟩ hV126 hF127 e128 e129 hp134 (by (have e : V124 90 2 = y107 := e130); rw [e]; omega) (hT.trans (pf_val_inl hb22)) rfl
            · skip
              replace hb143 := hb143.trans (if_neg (Int.not_le.mpr c148))
              refine pm_iload_n hC 2 dX12_learnLine_65 rfl ?_
              refine pm_iconst (v := 1) hC dX12_learnLine_66 ?_
              refine pm_icmp_ne (tgt := 116) hC ⟨by omega, by omega⟩ ⟨by decide, by decide⟩ dX12_learnLine_67 (by decide) (fun c151 => ?_) (fun c151 => ?_)
              · skip
                replace hb143 := hb143.trans (if_pos c151)
                obtain ⟨x152, ei153⟩ : ∃ y : Int, x11 + 1 = y := ⟨_, rfl⟩
                replace hb143 := hb143.trans (pf_let_eq ei153)
                refine pm_iinc (y := x152) (lv' := [(2, (0, x152)), (0, (3, 90)), (1, (0, (3 * y7))), (3, (0, x139))]) hC 2 dX12_learnLine_116 (by decide) rfl ei153 rfl ?_
                refine pm_goto (tgt := 20) hC dX12_learnLine_119 (by decide) ?_
                have hb22 := hb22.trans (pf_val_inr hb143)
                refine pm_lvsub [1, 2, 0] (lv' := [(0, (3, 90)), (1, (0, (3 * y7))), (2, (0, x152))]) rfl ?_
                exact ih26 _ (by omega) x152 V124 ⟨by omega, by omega⟩ hV126 hF127 e128 e129 hp134 (by (have e : V124 90 2 = y107 := e130); rw [e]; omega) (hT.trans (pf_val_inl hb22)) rfl
              · skip
                replace hb143 := hb143.trans (if_neg (fun q => q c151))
                refine pm_aload_n hC 0 (by decide) dX12_learnLine_70 rfl ?_
                refine pm_getf (v := 96) hC 90 fl_X12_28 rfl rfl (by decide) rfl e133 dX12_learnLine_71 ?_
                refine pm_iconst (v := 3) hC dX12_learnLine_74 ?_
                refine pm_iload_n hC 3 dX12_learnLine_75 rfl ?_
                refine pm_imul hC dX12_learnLine_76 ?_
                obtain ⟨y154, e155⟩ : ∃ y, V124 96 ((3 * x139) : Int).toNat = y := ⟨_, rfl⟩
                replace hb143 := hb143.trans (pf_let_eq e155)
                have b156 := hV126.get 96 ((3 * x139) : Int).toNat (lo := (-1)) (hi := 8) (t := 0) (by decide) (show _ < 36 by omega) rfl
                rw [e155] at b156
                refine pm_iaload (len := 36) (v := y154) hC 96 rfl rfl (by decide) ⟨by omega, by omega⟩ (by decide) e155 dX12_learnLine_77 ?_
                refine pm_aload_n hC 0 (by decide) dX12_learnLine_78 rfl ?_
                refine pm_getf (v := 96) hC 90 fl_X12_28 rfl rfl (by decide) rfl e133 dX12_learnLine_79 ?_
                refine pm_iload_n hC 1 dX12_learnLine_82 rfl ?_
                obtain ⟨y157, e158⟩ : ∃ y, V124 96 ((3 * y7) : Int).toNat = y := ⟨_, rfl⟩
                replace hb143 := hb143.trans (pf_let_eq e158)
                have b159 := hV126.get 96 ((3 * y7) : Int).toNat (lo := (-1)) (hi := 8) (t := 0) (by decide) (show _ < 36 by omega) rfl
                rw [e158] at b159
                refine pm_iaload (len := 36) (v := y157) hC 96 rfl rfl (by decide) ⟨by omega, by omega⟩ (by decide) e158 dX12_learnLine_83 ?_
                refine pm_icmp_ne (tgt := 110) hC ⟨by omega, by omega⟩ ⟨by omega, by omega⟩ dX12_learnLine_84 (by decide) (fun c160 => ?_) (fun c160 => ?_)
                · skip
                  replace hb143 := hb143.trans (if_pos c160)
                  obtain ⟨x161, ei162⟩ : ∃ y : Int, x139 + 1 = y := ⟨_, rfl⟩
                  replace hb143 := hb143.trans (pf_let_eq ei162)
                  refine pm_iinc (y := x161) (lv' := [(3, (0, x161)), (0, (3, 90)), (1, (0, (3 * y7))), (2, (0, x11))]) hC 3 dX12_learnLine_110 (by decide) rfl ei162 rfl ?_
                  refine pm_goto (tgt := 57) hC dX12_learnLine_113 (by decide) ?_
                  refine pm_lvsub [1, 2, 3, 0] (lv' := [(0, (3, 90)), (1, (0, (3 * y7))), (2, (0, x11)), (3, (0, x161))]) rfl ?_
                  exact ih147 _ (by omega) x161 ⟨by omega, by omega⟩ (hb22.trans (pf_val_inl hb143)) rfl
                · skip
                  replace hb143 := hb143.trans (if_neg (fun q => q c160))
                  refine pm_aload_n hC 0 (by decide) dX12_learnLine_87 rfl ?_
                  refine pm_getf (v := 96) hC 90 fl_X12_28 rfl rfl (by decide) rfl e133 dX12_learnLine_88 ?_
                  refine pm_iconst (v := 3) hC dX12_learnLine_91 ?_
                  refine pm_iload_n hC 3 dX12_learnLine_92 rfl ?_
                  refine pm_imul hC dX12_learnLine_93 ?_
                  refine pm_iconst (v := 1) hC dX12_learnLine_94 ?_
                  refine pm_iadd hC dX12_learnLine_95 ?_
                  obtain ⟨y163, e164⟩ : ∃ y, V124 96 (((3 * x139) + 1) : Int).toNat = y := ⟨_, rfl⟩
                  replace hb143 := hb143.trans (pf_let_eq e164)
                  have b165 := hV126.get 96 (((3 * x139) + 1) : Int).toNat (lo := (-1)) (hi := 8) (t := 0) (by decide) (show _ < 36 by omega) rfl
                  rw [e164] at b165
                  refine pm_iaload (len := 36) (v := y163) hC 96 rfl rfl (by decide) ⟨by omega, by omega⟩ (by decide) e164 dX12_learnLine_96 ?_
                  refine pm_aload_n hC 0 (by decide) dX12_learnLine_97 rfl ?_
                  refine pm_getf (v := 96) hC 90 fl_X12_28 rfl rfl (by decide) rfl e133 dX12_learnLine_98 ?_
                  refine pm_iload_n hC 1 dX12_learnLine_101 rfl ?_
                  refine pm_iconst (v := 1) hC dX12_learnLine_102 ?_
                  refine pm_iadd hC dX12_learnLine_103 ?_
                  obtain ⟨y166, e167⟩ : ∃ y, V124 96 (((3 * y7) + 1) : Int).toNat = y := ⟨_, rfl⟩
                  replace hb143 := hb143.trans (pf_let_eq e167)
                  have b168 := hV126.get 96 (((3 * y7) + 1) : Int).toNat (lo := (-1)) (hi := 8) (t := 0) (by decide) (show _ < 36 by omega) rfl
                  rw [e167] at b168
                  refine pm_iaload (len := 36) (v := y166) hC 96 rfl rfl (by decide) ⟨by omega, by omega⟩ (by decide) e167 dX12_learnLine_104 ?_
                  refine pm_icmp_ne (tgt := 110) hC ⟨by omega, by omega⟩ ⟨by omega, by omega⟩ dX12_learnLine_105 (by decide) (fun c169 => ?_) (fun c169 => ?_)
                  · skip
                    replace hb143 := hb143.trans (if_pos c169)
                    obtain ⟨x170, ei171⟩ : ∃ y : Int, x139 + 1 = y := ⟨_, rfl⟩
                    replace hb143 := hb143.trans (pf_let_eq ei171)
                    refine pm_iinc (y := x170) (lv' := [(3, (0, x170)), (0, (3, 90)), (1, (0, (3 * y7))), (2, (0, x11))]) hC 3 dX12_learnLine_110 (by decide) rfl ei171 rfl ?_
                    refine pm_goto (tgt := 57) hC dX12_learnLine_113 (by decide) ?_
                    refine pm_lvsub [1, 2, 3, 0] (lv' := [(0, (3, 90)), (1, (0, (3 * y7))), (2, (0, x11)), (3, (0, x170))]) rfl ?_
                    exact ih147 _ (by omega) x170 ⟨by omega, by omega⟩ (hb22.trans (pf_val_inl hb143)) rfl
                  · skip
                    replace hb143 := hb143.trans (if_neg (fun q => q c169))
                    refine pm_iconst (v := 0) hC dX12_learnLine_108 ?_
                    have hb22 := hb22.trans (pf_val_inr hb143)
                    have hT := hT.trans (pf_val_inr hb22)
                    exact pm_iret hC hR (pm_narZ (by omega)) ⟨0, rfl, ⟨by omega, by omega, by omega, by omega⟩, hV126, hF127, hp134, hT⟩ dX12_learnLine_109
          refine pm_lvsub [1, 2, 3, 0] (lv' := [(0, (3, 90)), (1, (0, (3 * y7))), (2, (0, x11)), (3, (0, 0))]) rfl ?_
          exact L144 _ 0 ⟨by decide, by decide⟩ hb22 rfl
        · skip
          replace hb22 := hb22.trans (if_neg (fun q => q c138))
          refine pm_iconst (v := 0) hC dX12_learnLine_53 ?_
          have hT := hT.trans (pf_val_inr hb22)
          exact pm_iret hC hR (pm_narZ (by omega)) ⟨0, rfl, ⟨by omega, by omega, by omega, by omega⟩, hV126, hF127, hp134, hT⟩ dX12_learnLine_54
    refine pm_lvsub [2, 1, 0] (lv' := [(0, (3, 90)), (1, (0, (3 * y7))), (2, (0, 0))]) rfl ?_
    exact L23 _ 0 V0 ⟨by decide, by decide⟩ hV0 (pm_fs.rf (cs := [96]) (fs := [2, 3, 4, 5, 13]) (V := V0)) e2 e8 hn_pm_az (by (have e : V0 90 2 = y4 := e5); rw [e]; omega) hT rfl
  · skip
    replace hT := hT.trans (if_neg (fun q => q c10))
    refine pm_iconst (v := 0) hC dX12_learnLine_9 ?_
    obtain ⟨y172, e173⟩ : ∃ y, V0 90 3 = y := ⟨_, rfl⟩
    have b174 := hV0.get 90 3 (lo := 0) (hi := 4) (by decide) (by decide) rfl
    rw [e173] at b174
    replace hT := hT.trans (pf_let_eq e173)
    obtain ⟨y175, e176⟩ : ∃ y, V0 90 4 = y := ⟨_, rfl⟩
    have b177 := hV0.get 90 4 (lo := 0) (hi := 500) (by decide) (by decide) rfl
    rw [e176] at b177
    replace hT := hT.trans (pf_let_eq e176)
    exact pm_iret hC hR (pm_narZ (by omega)) ⟨0, rfl, ⟨by omega, by omega, by omega, by omega⟩, hV0, (pm_fs.rf (cs := [96]) (fs := [2, 3, 4, 5, 13]) (V := V0)), hn_pm_az, hT⟩ dX12_learnLine_10
set_option maxHeartbeats 4000000 in
set_option maxRecDepth 100000 in
theorem fP_X12_number (a1 a2 : Int) (h0 : 0 ≤ a1 ∧ a1 ≤ 9999) (h1 : 0 ≤ a2 ∧ a2 ≤ 9999) : pm_K 3 yX12_number cX12_number 3 (some .boolean) (fun av V => av = [(3, 90), (0, a1), (0, a2)] ∧ pm_oq pm_qP V ∧ pm_az V) (fun _ V r V' => ∃ y, r = some (0, y) ∧ (0 ≤ y ∧ y ≤ 1 ∧ (y = 1 → a1 ≤ V' 90 37 ∧ V' 90 37 ≤ a2) ∧ (y = 1 → V' 90 3 ≤ 5 * (V' 90 2 - V 90 2)) ∧ (V 90 2 ≤ V' 90 2)) ∧ pm_oq pm_qP V' ∧ pm_fs [] [2, 3, 4, 5, 37] V V' ∧ pm_az V' ∧ F_X12_number a1 a2 V = (y, V')) := by
  refine pm_MT.of (by decide) ⟨Nat.le_refl _, by decide⟩ (fun av V h => by rw [h.1]; exact (by decide : pm_words [(3, 0), (0, 0), (0, 0)] ≤ 3)) ?_
  rintro X av V0 hC - hR ⟨rfl, hV0, hn_pm_az⟩
  change pm_J X 0 [(0, (3, 90)), (1, (0, a1)), (2, (0, a2))] [] 118 V0
  have hT := F_X12_number_eq a1 a2 V0
  obtain ⟨y1, e2⟩ : ∃ y, V0 90 1 = y := ⟨_, rfl⟩
  have b3 := hV0.get 90 1 (lo := 0) (hi := 500) (by decide) (by decide) rfl
  rw [e2] at b3
  replace hT := hT.trans (pf_let_eq e2)
  obtain ⟨y4, e5⟩ : ∃ y, V0 90 2 = y := ⟨_, rfl⟩
  have b6 := hV0.get 90 2 (lo := 0) (hi := 500) (by decide) (by decide) rfl
  rw [e5] at b6
  replace hT := hT.trans (pf_let_eq e5)
  have hsz := hn_pm_az
  unfold pm_az at hsz
  rw [e5, e2] at hsz
  refine pm_aload_n hC 0 (by decide) dX12_number_0 rfl ?_
  obtain ⟨y7, e8⟩ : ∃ y, V0 90 3 = y := ⟨_, rfl⟩
  have b9 := hV0.get 90 3 (lo := 0) (hi := 4) (by decide) (by decide) rfl
  rw [e8] at b9
  replace hT := hT.trans (pf_let_eq e8)
  refine pm_getf (v := y7) hC 90 fl_X12_112 rfl rfl (by decide) rfl e8 dX12_number_1 ?_
  refine pm_iconst (v := 2) hC dX12_number_4 ?_
  refine pm_icmp_ne (tgt := 28) hC ⟨by omega, by omega⟩ ⟨by decide, by decide⟩ dX12_number_5 (by decide) (fun c10 => ?_) (fun c10 => ?_)
  · skip
    replace hT := hT.trans (if_pos c10)
    refine pm_iconst (v := 0) hC dX12_number_28 ?_
    obtain ⟨y11, e12⟩ : ∃ y, V0 90 4 = y := ⟨_, rfl⟩
    have b13 := hV0.get 90 4 (lo := 0) (hi := 500) (by decide) (by decide) rfl
    rw [e12] at b13
    replace hT := hT.trans (pf_let_eq e12)
    exact pm_iret hC hR (pm_narZ (by omega)) ⟨0, rfl, ⟨by omega, by omega, by omega, by omega, by omega⟩, hV0, (pm_fs.rf (cs := []) (fs := [2, 3, 4, 5, 37]) (V := V0)), hn_pm_az, hT⟩ dX12_number_29
  · skip
    replace hT := hT.trans (if_neg (fun q => q c10))
    refine pm_aload_n hC 0 (by decide) dX12_number_8 rfl ?_
    obtain ⟨y14, e15⟩ : ∃ y, V0 90 5 = y := ⟨_, rfl⟩
    have b16 := hV0.get 90 5 (lo := (-9223372036854775808)) (hi := 9223372036854775807) (by decide) (by decide) rfl
    rw [e15] at b16
    replace hT := hT.trans (pf_let_eq e15)
    refine pm_getf (v := y14) hC 90 fl_X12_108 rfl rfl (by decide) rfl e15 dX12_number_9 ?_
    refine pm_iload_n hC 1 dX12_number_12 rfl ?_
    refine pm_i2l hC ⟨by omega, by omega⟩ dX12_number_13 ?_
    refine pm_lcmp hC ⟨by omega, by omega⟩ ⟨by omega, by omega⟩ dX12_number_14 (fun y17 b18 => ?_)
    replace hT := hT.trans (pf_let_eq (pm_cmp_u b18))
    refine pm_if_lt (tgt := 28) hC ⟨by omega, by omega⟩ dX12_number_15 (by decide) (fun c19 => ?_) (fun c19 => ?_)
    · skip
      replace hT := hT.trans (if_pos c19)
      refine pm_iconst (v := 0) hC dX12_number_28 ?_
      obtain ⟨y20, e21⟩ : ∃ y, V0 90 4 = y := ⟨_, rfl⟩
      have b22 := hV0.get 90 4 (lo := 0) (hi := 500) (by decide) (by decide) rfl
      rw [e21] at b22
      replace hT := hT.trans (pf_let_eq e21)
      exact pm_iret hC hR (pm_narZ (by omega)) ⟨0, rfl, ⟨by omega, by omega, by omega, by omega, by omega⟩, hV0, (pm_fs.rf (cs := []) (fs := [2, 3, 4, 5, 37]) (V := V0)), hn_pm_az, hT⟩ dX12_number_29
    · skip
      replace hT := hT.trans (if_neg (Int.not_lt.mpr c19))
      refine pm_aload_n hC 0 (by decide) dX12_number_18 rfl ?_
      refine pm_getf (v := y14) hC 90 fl_X12_108 rfl rfl (by decide) rfl e15 dX12_number_19 ?_
      refine pm_iload_n hC 2 dX12_number_22 rfl ?_
      refine pm_i2l hC ⟨by omega, by omega⟩ dX12_number_23 ?_
      refine pm_lcmp hC ⟨by omega, by omega⟩ ⟨by omega, by omega⟩ dX12_number_24 (fun y23 b24 => ?_)
      replace hT := hT.trans (pf_let_eq (pm_cmp_u b24))
      refine pm_if_le (tgt := 30) hC ⟨by omega, by omega⟩ dX12_number_25 (by decide) (fun c25 => ?_) (fun c25 => ?_)
      · skip
        replace hT := hT.trans (if_pos c25)
        refine pm_aload_n hC 0 (by decide) dX12_number_30 rfl ?_
        refine pm_aload_n hC 0 (by decide) dX12_number_31 rfl ?_
        refine pm_getf (v := y14) hC 90 fl_X12_108 rfl rfl (by decide) rfl e15 dX12_number_32 ?_
        refine pm_l2i hC dX12_number_35 ?_
        refine pm_putf hC 90 fl_X12_151 rfl rfl rfl (by decide) rfl trivial dX12_number_36 ?_
        refine pm_aload_n hC 0 (by decide) dX12_number_39 rfl ?_
        have hV28 := (hV0.put 90 37 (x := y14) (lo := (-2147483648)) (hi := 2147483647) rfl ⟨by omega, by omega⟩)
        have hF29 := ((pm_fs.rf (cs := []) (fs := [2, 3, 4, 5, 37]) (V := V0)).upf 37 y14 rfl)
        obtain ⟨V26, hv27⟩ : ∃ V, V = (pm_up V0 90 37 y14) := ⟨_, rfl⟩
        rw [← hv27] at hV28 hF29
        rw [← hv27]
        replace hT := hT.trans (pf_let_eq hv27.symm)
        have e30 : V26 90 1 = y1 := by rw [hv27]; exact e2
        have e31 : V26 90 2 = y4 := by rw [hv27]; exact e5
        have e32 : V26 90 3 = y7 := by rw [hv27]; exact e8
        have e33 : V26 90 5 = y14 := by rw [hv27]; exact e15
        have e34 : V26 90 37 = y14 := by rw [hv27]; rfl
        have hp35 : pm_az V26 := by rw [hv27]; exact (pm_az.fr hn_pm_az rfl rfl)
        obtain ⟨y36, e37⟩ : ∃ y, V26 90 4 = y := ⟨_, rfl⟩
        have b38 := hV28.get 90 4 (lo := 0) (hi := 500) (by decide) (by decide) rfl
        rw [e37] at b38
        replace hT := hT.trans (pf_let_eq e37)
        refine pm_callV (ci := 12) (as := []) (st := []) hC 90 fP_X12_leads lm_X12_148 li_X12_leads (by decide) (by decide) rfl rfl rfl (by decide) rfl rfl (Nat.le_of_ble_eq_true rfl) ⟨Nat.le_refl _, Or.inl rfl⟩ dX12_number_40 ⟨rfl, hV28, hp35⟩ (fun r39 V40 hp41 => ?_)
        obtain ⟨rfl, hV42, hF43, hg44, hE45⟩ := hp41
        replace hT := hT.trans (pf_call_eq hE45)
        change pm_J X 43 [(0, (3, 90)), (1, (0, a1)), (2, (0, a2))] [] 118 V40
        have hF46 := pm_fs.tr hF29 hF43 (by decide) (by decide)
        have e47 : V40 90 1 = y1 := by rw [hF43.2 1 (by decide)]; exact e30
        have e48 : V40 90 37 = y14 := by rw [hF43.2 37 (by decide)]; exact e34
        obtain ⟨y49, e50⟩ : ∃ y, V40 90 2 = y := ⟨_, rfl⟩
        have b51 := hV42.get 90 2 (lo := 0) (hi := 500) (by decide) (by decide) rfl
        rw [e50] at b51
        replace hT := hT.trans (pf_let_eq e50)
        obtain ⟨y52, e53⟩ : ∃ y, V40 90 3 = y := ⟨_, rfl⟩
        have b54 := hV42.get 90 3 (lo := 0) (hi := 4) (by decide) (by decide) rfl
        rw [e53] at b54
        replace hT := hT.trans (pf_let_eq e53)
        obtain ⟨y55, e56⟩ : ∃ y, V40 90 4 = y := ⟨_, rfl⟩
        have b57 := hV42.get 90 4 (lo := 0) (hi := 500) (by decide) (by decide) rfl
        rw [e56] at b57
        replace hT := hT.trans (pf_let_eq e56)
        have hpr58 := r_leads_pr hV28 hp35 hE45
        refine pm_iconst (v := 1) hC dX12_number_43 ?_
        exact pm_iret hC hR (pm_narZ (by omega)) ⟨1, rfl, ⟨by omega, by omega, by omega, by omega, by omega⟩, hV42, hF46, hg44, hT⟩ dX12_number_44
      · skip
        replace hT := hT.trans (if_neg (Int.not_le.mpr c25))
        refine pm_iconst (v := 0) hC dX12_number_28 ?_
        obtain ⟨y59, e60⟩ : ∃ y, V0 90 4 = y := ⟨_, rfl⟩
        have b61 := hV0.get 90 4 (lo := 0) (hi := 500) (by decide) (by decide) rfl
        rw [e60] at b61
        replace hT := hT.trans (pf_let_eq e60)
        exact pm_iret hC hR (pm_narZ (by omega)) ⟨0, rfl, ⟨by omega, by omega, by omega, by omega, by omega⟩, hV0, (pm_fs.rf (cs := []) (fs := [2, 3, 4, 5, 37]) (V := V0)), hn_pm_az, hT⟩ dX12_number_29
set_option maxHeartbeats 4000000 in
set_option maxRecDepth 100000 in
theorem fP_X12_holdLine  : pm_K 8 yX12_holdLine cX12_holdLine 2 (some .boolean) (fun av V => av = [(3, 90)] ∧ pm_oq pm_qP V ∧ pm_az V) (fun _ V r V' => ∃ y, r = some (0, y) ∧ (0 ≤ y ∧ y ≤ 1 ∧ (y = 1 → V' 90 3 ≤ 5 * (V' 90 2 - V 90 2)) ∧ (V 90 2 ≤ V' 90 2)) ∧ pm_oq pm_qP V' ∧ pm_fs [93, 94] [2, 3, 4, 5, 37] V V' ∧ pm_az V' ∧ F_X12_holdLine  V = (y, V')) := by
  refine pm_MT.of (by decide) ⟨Nat.le_refl _, by decide⟩ (fun av V h => by rw [h.1]; exact (by decide : pm_words [(3, 0)] ≤ 2)) ?_
  rintro X av V0 hC - hR ⟨rfl, hV0, hn_pm_az⟩
  change pm_J X 0 [(0, (3, 90))] [] 118 V0
  have hT := F_X12_holdLine_eq  V0
  obtain ⟨y1, e2⟩ : ∃ y, V0 90 1 = y := ⟨_, rfl⟩
  have b3 := hV0.get 90 1 (lo := 0) (hi := 500) (by decide) (by decide) rfl
  rw [e2] at b3
  replace hT := hT.trans (pf_let_eq e2)
  obtain ⟨y4, e5⟩ : ∃ y, V0 90 2 = y := ⟨_, rfl⟩
  have b6 := hV0.get 90 2 (lo := 0) (hi := 500) (by decide) (by decide) rfl
  rw [e5] at b6
  replace hT := hT.trans (pf_let_eq e5)
  have hsz := hn_pm_az
  unfold pm_az at hsz
  rw [e5, e2] at hsz
  refine pm_aload_n hC 0 (by decide) dX12_holdLine_0 rfl ?_
  obtain ⟨y7, e8⟩ : ∃ y, V0 90 3 = y := ⟨_, rfl⟩
  have b9 := hV0.get 90 3 (lo := 0) (hi := 4) (by decide) (by decide) rfl
  rw [e8] at b9
  replace hT := hT.trans (pf_let_eq e8)
  obtain ⟨y10, e11⟩ : ∃ y, V0 90 4 = y := ⟨_, rfl⟩
  have b12 := hV0.get 90 4 (lo := 0) (hi := 500) (by decide) (by decide) rfl
  rw [e11] at b12
  replace hT := hT.trans (pf_let_eq e11)
  refine pm_callV (ci := 12) (as := []) (st := []) hC 90 fP_X12_leads lm_X12_148 li_X12_leads (by decide) (by decide) rfl rfl rfl (by decide) rfl rfl (Nat.le_of_ble_eq_true rfl) ⟨Nat.le_refl _, Or.inl rfl⟩ dX12_holdLine_1 ⟨rfl, hV0, hn_pm_az⟩ (fun r13 V14 hp15 => ?_)
  obtain ⟨rfl, hV16, hF17, hg18, hE19⟩ := hp15
  replace hT := hT.trans (pf_call_eq hE19)
  change pm_J X 4 [(0, (3, 90))] [] 118 V14
  have hF20 := pm_fs.tr (pm_fs.rf (cs := [93, 94]) (fs := [2, 3, 4, 5, 37]) (V := V0)) hF17 (by decide) (by decide)
  have e21 : V14 90 1 = y1 := by rw [hF17.2 1 (by decide)]; exact e2
  obtain ⟨y22, e23⟩ : ∃ y, V14 90 2 = y := ⟨_, rfl⟩
  have b24 := hV16.get 90 2 (lo := 0) (hi := 500) (by decide) (by decide) rfl
  rw [e23] at b24
  replace hT := hT.trans (pf_let_eq e23)
  obtain ⟨y25, e26⟩ : ∃ y, V14 90 3 = y := ⟨_, rfl⟩
  have b27 := hV16.get 90 3 (lo := 0) (hi := 4) (by decide) (by decide) rfl
  rw [e26] at b27
  replace hT := hT.trans (pf_let_eq e26)
  obtain ⟨y28, e29⟩ : ∃ y, V14 90 4 = y := ⟨_, rfl⟩
  have b30 := hV16.get 90 4 (lo := 0) (hi := 500) (by decide) (by decide) rfl
  rw [e29] at b30
  replace hT := hT.trans (pf_let_eq e29)
  have hpr31 := r_leads_pr hV0 hn_pm_az hE19
  refine pm_aload_n hC 0 (by decide) dX12_holdLine_4 rfl ?_
  refine pm_callV (ci := 12) (as := []) (st := []) hC 90 fP_X12_named lm_X12_176 li_X12_named (by decide) (by decide) rfl rfl rfl (by decide) rfl rfl (Nat.le_of_ble_eq_true rfl) ⟨Nat.le_refl _, Or.inl rfl⟩ dX12_holdLine_5 ⟨rfl, hV16⟩ (fun r32 V33 hp34 => ?_)
  obtain ⟨y35, rfl, b36, rfl, hE37⟩ := hp34
  replace hT := hT.trans (pf_call_eq hE37)
  change pm_J X 8 [(0, (3, 90))] [(0, y35)] 118 V14
  refine pm_istore_n (lv' := [(1, (0, y35)), (0, (3, 90))]) hC dX12_holdLine_8 (by decide) rfl ?_
  refine pm_iload_n hC 0 dX12_holdLine_9 rfl ?_
  refine pm_iconst (v := (-1)) hC dX12_holdLine_10 ?_
  refine pm_icmp_eq (tgt := 23) hC ⟨by omega, by omega⟩ ⟨by decide, by decide⟩ dX12_holdLine_11 (by decide) (fun c38 => ?_) (fun c38 => ?_)
  · skip
    replace hT := hT.trans (if_pos c38)
    refine pm_iconst (v := 0) hC dX12_holdLine_23 ?_
    exact pm_iret hC hR (pm_narZ (by omega)) ⟨0, rfl, ⟨by omega, by omega, by omega, by omega⟩, hV16, hF20, hg18, hT⟩ dX12_holdLine_24
  · skip
    replace hT := hT.trans (if_neg c38)
    refine pm_aload_n hC 1 (by decide) dX12_holdLine_14 rfl ?_
    have e39 : V14 90 9 = 94 := hV16.one 90 9 (by decide) (by decide) rfl
    refine pm_getf (v := 94) hC 90 fl_X12_21 rfl rfl (by decide) rfl e39 dX12_holdLine_15 ?_
    refine pm_iload_n hC 0 dX12_holdLine_18 rfl ?_
    obtain ⟨y40, e41⟩ : ∃ y, V14 94 (y35 : Int).toNat = y := ⟨_, rfl⟩
    replace hT := hT.trans (pf_let_eq e41)
    have b42 := hV16.get 94 (y35 : Int).toNat (lo := 0) (hi := 1) (t := 0) (by decide) (show _ < 9 by omega) rfl
    rw [e41] at b42
    refine pm_zaload (len := 9) (v := y40) hC 94 rfl rfl (by decide) ⟨by omega, by omega⟩ (by decide) e41 dX12_holdLine_19 ?_
    refine pm_if_eq (tgt := 25) hC ⟨by omega, by omega⟩ dX12_holdLine_20 (by decide) (fun c43 => ?_) (fun c43 => ?_)
    · skip
      replace hT := hT.trans (if_pos c43)
      refine pm_aload_n hC 1 (by decide) dX12_holdLine_25 rfl ?_
      refine pm_callV (ci := 12) (as := []) (st := []) hC 90 fP_X12_leads lm_X12_148 li_X12_leads (by decide) (by decide) rfl rfl rfl (by decide) rfl rfl (Nat.le_of_ble_eq_true rfl) ⟨Nat.le_refl _, Or.inl rfl⟩ dX12_holdLine_26 ⟨rfl, hV16, hg18⟩ (fun r44 V45 hp46 => ?_)
      obtain ⟨rfl, hV47, hF48, hg49, hE50⟩ := hp46
      replace hT := hT.trans (pf_call_eq hE50)
      change pm_J X 29 [(1, (0, y35)), (0, (3, 90))] [] 118 V45
      have hF51 := pm_fs.tr hF20 hF48 (by decide) (by decide)
      have e52 : V45 90 1 = y1 := by rw [hF48.2 1 (by decide)]; exact e21
      have e53 : V45 90 9 = 94 := by rw [hF48.2 9 (by decide)]; exact e39
      obtain ⟨y54, e55⟩ : ∃ y, V45 90 2 = y := ⟨_, rfl⟩
      have b56 := hV47.get 90 2 (lo := 0) (hi := 500) (by decide) (by decide) rfl
      rw [e55] at b56
      replace hT := hT.trans (pf_let_eq e55)
      obtain ⟨y57, e58⟩ : ∃ y, V45 90 3 = y := ⟨_, rfl⟩
      have b59 := hV47.get 90 3 (lo := 0) (hi := 4) (by decide) (by decide) rfl
      rw [e58] at b59
      replace hT := hT.trans (pf_let_eq e58)
      obtain ⟨y60, e61⟩ : ∃ y, V45 90 4 = y := ⟨_, rfl⟩
      have b62 := hV47.get 90 4 (lo := 0) (hi := 500) (by decide) (by decide) rfl
      rw [e61] at b62
      replace hT := hT.trans (pf_let_eq e61)
      have hpr63 := r_leads_pr hV16 hg18 hE50
      refine pm_aload_n hC 1 (by decide) dX12_holdLine_29 rfl ?_
      refine pm_iconst (v := 1) hC dX12_holdLine_30 ?_
      refine pm_bipush (v := 9) hC dX12_holdLine_31 (by decide) ?_
      refine pm_callV (ci := 12) (as := [(0, 1), (0, 9)]) (st := []) hC 90 (fP_X12_number 1 9 ⟨by decide, by decide⟩ ⟨by decide, by decide⟩) lm_X12_179 li_X12_number (by decide) (by decide) rfl rfl rfl (by decide) rfl rfl (Nat.le_of_ble_eq_true rfl) ⟨Nat.le_refl _, Or.inl rfl⟩ dX12_holdLine_33 ⟨rfl, hV47, hg49⟩ (fun r64 V65 hp66 => ?_)
      obtain ⟨y67, rfl, b68, hV69, hF70, hg71, hE72⟩ := hp66
      replace hT := hT.trans (pf_call_eq hE72)
      change pm_J X 36 [(1, (0, y35)), (0, (3, 90))] [(0, y67)] 118 V65
      have hF73 := pm_fs.tr hF51 hF70 (by decide) (by decide)
      have e74 : V65 90 1 = y1 := by rw [hF70.2 1 (by decide)]; exact e52
      have e75 : V65 90 9 = 94 := by rw [hF70.2 9 (by decide)]; exact e53
      obtain ⟨y76, e77⟩ : ∃ y, V65 90 2 = y := ⟨_, rfl⟩
      have b78 := hV69.get 90 2 (lo := 0) (hi := 500) (by decide) (by decide) rfl
      rw [e77] at b78
      replace hT := hT.trans (pf_let_eq e77)
      obtain ⟨y79, e80⟩ : ∃ y, V65 90 3 = y := ⟨_, rfl⟩
      have b81 := hV69.get 90 3 (lo := 0) (hi := 4) (by decide) (by decide) rfl
      rw [e80] at b81
      replace hT := hT.trans (pf_let_eq e80)
      obtain ⟨y82, e83⟩ : ∃ y, V65 90 4 = y := ⟨_, rfl⟩
      have b84 := hV69.get 90 4 (lo := 0) (hi := 500) (by decide) (by decide) rfl
      rw [e83] at b84
      replace hT := hT.trans (pf_let_eq e83)
      obtain ⟨y85, e86⟩ : ∃ y, V65 90 37 = y := ⟨_, rfl⟩
      have b87 := hV69.get 90 37 (lo := (-2147483648)) (hi := 2147483647) (by decide) (by decide) rfl
      rw [e86] at b87
      replace hT := hT.trans (pf_let_eq e86)
      refine pm_if_ne (tgt := 41) hC ⟨by omega, by omega⟩ dX12_holdLine_36 (by decide) (fun c88 => ?_) (fun c88 => ?_)
      · skip
        replace hT := hT.trans (if_pos c88)
        refine pm_aload_n hC 1 (by decide) dX12_holdLine_41 rfl ?_
        have e89 : V65 90 8 = 93 := hV69.one 90 8 (by decide) (by decide) rfl
        refine pm_getf (v := 93) hC 90 fl_X12_17 rfl rfl (by decide) rfl e89 dX12_holdLine_42 ?_
        refine pm_iconst (v := 3) hC dX12_holdLine_45 ?_
        refine pm_iload_n hC 0 dX12_holdLine_46 rfl ?_
        refine pm_imul hC dX12_holdLine_47 ?_
        refine pm_iconst (v := 2) hC dX12_holdLine_48 ?_
        refine pm_iadd hC dX12_holdLine_49 ?_
        refine pm_aload_n hC 1 (by decide) dX12_holdLine_50 rfl ?_
        refine pm_getf (v := y85) hC 90 fl_X12_151 rfl rfl (by decide) rfl e86 dX12_holdLine_51 ?_
        refine pm_iastore (len := 27) hC 93 rfl rfl (by decide) ⟨by omega, by omega⟩ (by decide) dX12_holdLine_54 ?_
        refine pm_aload_n hC 1 (by decide) dX12_holdLine_55 rfl ?_
        refine pm_getf (v := 94) hC 90 fl_X12_21 rfl rfl (by decide) rfl e75 dX12_holdLine_56 ?_
        refine pm_iload_n hC 0 dX12_holdLine_59 rfl ?_
        refine pm_iconst (v := 1) hC dX12_holdLine_60 ?_
        refine pm_zastore (len := 9) hC 94 rfl rfl (by decide) ⟨by omega, by omega⟩ (by decide) (by omega) dX12_holdLine_61 ?_
        refine pm_aload_n hC 1 (by decide) dX12_holdLine_62 rfl ?_
        have hV92 := ((hV69.put 93 (((3 * y35) + 2) : Int).toNat (x := y85) (lo := 0) (hi := 9) ((pm_qe_r (tb := pm_qP) (k := 93) (i := (((3 * y35) + 2) : Int).toNat) (m := 3) (r := 2) (l := [(0, 99, 0), (0, 99, 0), (0, 9, 0)]) rfl rfl (by omega)).trans rfl) ⟨by omega, by omega⟩).put 94 (y35 : Int).toNat (x := 1) (lo := 0) (hi := 1) rfl ⟨by decide, by decide⟩)
        have hF93 := ((hF73.up 93 (((3 * y35) + 2) : Int).toNat y85 (by decide) rfl).up 94 (y35 : Int).toNat 1 (by decide) rfl)
        obtain ⟨V90, hv91⟩ : ∃ V, V = (pm_up (pm_up V65 93 (((3 * y35) + 2) : Int).toNat y85) 94 (y35 : Int).toNat 1) := ⟨_, rfl⟩
        rw [← hv91] at hV92 hF93
        rw [← hv91]
        replace hT := hT.trans (pf_let_eq hv91.symm)
        have e94 : V90 90 1 = y1 := by rw [hv91]; exact e74
        have e95 : V90 90 9 = 94 := by rw [hv91]; exact e75
        have e96 : V90 90 2 = y76 := by rw [hv91]; exact e77
        have e97 : V90 90 3 = y79 := by rw [hv91]; exact e80
        have e98 : V90 90 4 = y82 := by rw [hv91]; exact e83
        have e99 : V90 90 37 = y85 := by rw [hv91]; exact e86
        have e100 : V90 90 8 = 93 := by rw [hv91]; exact e89
        have hp101 : pm_az V90 := by rw [hv91]; exact (pm_az.fr hg71 rfl rfl)
        refine pm_callV (ci := 12) (as := []) (st := []) hC 90 fP_X12_closes lm_X12_183 li_X12_closes (by decide) (by decide) rfl rfl rfl (by decide) rfl rfl (Nat.le_of_ble_eq_true rfl) ⟨Nat.le_refl _, Or.inl rfl⟩ dX12_holdLine_63 ⟨rfl, hV92, hp101⟩ (fun r102 V103 hp104 => ?_)
        obtain ⟨y105, rfl, b106, hV107, hF108, hg109, hE110⟩ := hp104
        replace hT := hT.trans (pf_call_eq hE110)
        change pm_J X 66 [(1, (0, y35)), (0, (3, 90))] [(0, y105)] 118 V103
        have hF111 := pm_fs.tr hF93 hF108 (by decide) (by decide)
        have e112 : V103 90 1 = y1 := by rw [hF108.2 1 (by decide)]; exact e94
        have e113 : V103 90 9 = 94 := by rw [hF108.2 9 (by decide)]; exact e95
        have e114 : V103 90 37 = y85 := by rw [hF108.2 37 (by decide)]; exact e99
        have e115 : V103 90 8 = 93 := by rw [hF108.2 8 (by decide)]; exact e100
        obtain ⟨y116, e117⟩ : ∃ y, V103 90 2 = y := ⟨_, rfl⟩
        have b118 := hV107.get 90 2 (lo := 0) (hi := 500) (by decide) (by decide) rfl
        rw [e117] at b118
        replace hT := hT.trans (pf_let_eq e117)
        obtain ⟨y119, e120⟩ : ∃ y, V103 90 3 = y := ⟨_, rfl⟩
        have b121 := hV107.get 90 3 (lo := 0) (hi := 4) (by decide) (by decide) rfl
        rw [e120] at b121
        replace hT := hT.trans (pf_let_eq e120)
        obtain ⟨y122, e123⟩ : ∃ y, V103 90 4 = y := ⟨_, rfl⟩
        have b124 := hV107.get 90 4 (lo := 0) (hi := 500) (by decide) (by decide) rfl
        rw [e123] at b124
        replace hT := hT.trans (pf_let_eq e123)
        exact pm_iret hC hR (pm_narZ (by omega)) ⟨y105, rfl, ⟨by omega, by omega, by omega, by omega⟩, hV107, hF111, hg109, hT⟩ dX12_holdLine_66
      · skip
        replace hT := hT.trans (if_neg (fun q => q c88))
        refine pm_iconst (v := 0) hC dX12_holdLine_39 ?_
        exact pm_iret hC hR (pm_narZ (by omega)) ⟨0, rfl, ⟨by omega, by omega, by omega, by omega⟩, hV69, hF73, hg71, hT⟩ dX12_holdLine_40
    · skip
      replace hT := hT.trans (if_neg c43)
      refine pm_iconst (v := 0) hC dX12_holdLine_23 ?_
      exact pm_iret hC hR (pm_narZ (by omega)) ⟨0, rfl, ⟨by omega, by omega, by omega, by omega⟩, hV16, hF20, hg18, hT⟩ dX12_holdLine_24
set_option maxHeartbeats 4000000 in
set_option maxRecDepth 100000 in
theorem fP_X12_oddsLine  : pm_K 4 yX12_oddsLine cX12_oddsLine 2 (some .boolean) (fun av V => av = [(3, 90)] ∧ pm_oq pm_qP V ∧ pm_az V) (fun _ V r V' => ∃ y, r = some (0, y) ∧ (0 ≤ y ∧ y ≤ 1 ∧ (y = 1 → V' 90 3 ≤ 5 * (V' 90 2 - V 90 2)) ∧ (V 90 2 ≤ V' 90 2)) ∧ pm_oq pm_qP V' ∧ pm_fs [] [2, 3, 4, 5, 11, 12, 37] V V' ∧ pm_az V' ∧ F_X12_oddsLine  V = (y, V')) := by
  refine pm_MT.of (by decide) ⟨Nat.le_refl _, by decide⟩ (fun av V h => by rw [h.1]; exact (by decide : pm_words [(3, 0)] ≤ 2)) ?_
  rintro X av V0 hC - hR ⟨rfl, hV0, hn_pm_az⟩
  change pm_J X 0 [(0, (3, 90))] [] 118 V0
  have hT := F_X12_oddsLine_eq  V0
  obtain ⟨y1, e2⟩ : ∃ y, V0 90 1 = y := ⟨_, rfl⟩
  have b3 := hV0.get 90 1 (lo := 0) (hi := 500) (by decide) (by decide) rfl
  rw [e2] at b3
  replace hT := hT.trans (pf_let_eq e2)
  obtain ⟨y4, e5⟩ : ∃ y, V0 90 2 = y := ⟨_, rfl⟩
  have b6 := hV0.get 90 2 (lo := 0) (hi := 500) (by decide) (by decide) rfl
  rw [e5] at b6
  replace hT := hT.trans (pf_let_eq e5)
  have hsz := hn_pm_az
  unfold pm_az at hsz
  rw [e5, e2] at hsz
  refine pm_aload_n hC 0 (by decide) dX12_oddsLine_0 rfl ?_
  obtain ⟨y7, e8⟩ : ∃ y, V0 90 11 = y := ⟨_, rfl⟩
  have b9 := hV0.get 90 11 (lo := (-1)) (hi := 16) (by decide) (by decide) rfl
  rw [e8] at b9
  replace hT := hT.trans (pf_let_eq e8)
  refine pm_getf (v := y7) hC 90 fl_X12_186 rfl rfl (by decide) rfl e8 dX12_oddsLine_1 ?_
  refine pm_iconst (v := (-1)) hC dX12_oddsLine_4 ?_
  refine pm_icmp_eq (tgt := 10) hC ⟨by omega, by omega⟩ ⟨by decide, by decide⟩ dX12_oddsLine_5 (by decide) (fun c10 => ?_) (fun c10 => ?_)
  · skip
    replace hT := hT.trans (if_pos c10)
    refine pm_aload_n hC 0 (by decide) dX12_oddsLine_10 rfl ?_
    obtain ⟨y11, e12⟩ : ∃ y, V0 90 3 = y := ⟨_, rfl⟩
    have b13 := hV0.get 90 3 (lo := 0) (hi := 4) (by decide) (by decide) rfl
    rw [e12] at b13
    replace hT := hT.trans (pf_let_eq e12)
    obtain ⟨y14, e15⟩ : ∃ y, V0 90 4 = y := ⟨_, rfl⟩
    have b16 := hV0.get 90 4 (lo := 0) (hi := 500) (by decide) (by decide) rfl
    rw [e15] at b16
    replace hT := hT.trans (pf_let_eq e15)
    refine pm_callV (ci := 12) (as := []) (st := []) hC 90 fP_X12_leads lm_X12_148 li_X12_leads (by decide) (by decide) rfl rfl rfl (by decide) rfl rfl (Nat.le_of_ble_eq_true rfl) ⟨Nat.le_refl _, Or.inl rfl⟩ dX12_oddsLine_11 ⟨rfl, hV0, hn_pm_az⟩ (fun r17 V18 hp19 => ?_)
    obtain ⟨rfl, hV20, hF21, hg22, hE23⟩ := hp19
    replace hT := hT.trans (pf_call_eq hE23)
    change pm_J X 14 [(0, (3, 90))] [] 118 V18
    have hF24 := pm_fs.tr (pm_fs.rf (cs := []) (fs := [2, 3, 4, 5, 11, 12, 37]) (V := V0)) hF21 (by decide) (by decide)
    have e25 : V18 90 1 = y1 := by rw [hF21.2 1 (by decide)]; exact e2
    have e26 : V18 90 11 = y7 := by rw [hF21.2 11 (by decide)]; exact e8
    obtain ⟨y27, e28⟩ : ∃ y, V18 90 2 = y := ⟨_, rfl⟩
    have b29 := hV20.get 90 2 (lo := 0) (hi := 500) (by decide) (by decide) rfl
    rw [e28] at b29
    replace hT := hT.trans (pf_let_eq e28)
    obtain ⟨y30, e31⟩ : ∃ y, V18 90 3 = y := ⟨_, rfl⟩
    have b32 := hV20.get 90 3 (lo := 0) (hi := 4) (by decide) (by decide) rfl
    rw [e31] at b32
    replace hT := hT.trans (pf_let_eq e31)
    obtain ⟨y33, e34⟩ : ∃ y, V18 90 4 = y := ⟨_, rfl⟩
    have b35 := hV20.get 90 4 (lo := 0) (hi := 500) (by decide) (by decide) rfl
    rw [e34] at b35
    replace hT := hT.trans (pf_let_eq e34)
    have hpr36 := r_leads_pr hV0 hn_pm_az hE23
    refine pm_aload_n hC 0 (by decide) dX12_oddsLine_14 rfl ?_
    refine pm_iconst (v := 0) hC dX12_oddsLine_15 ?_
    refine pm_bipush (v := 16) hC dX12_oddsLine_16 (by decide) ?_
    refine pm_callV (ci := 12) (as := [(0, 0), (0, 16)]) (st := []) hC 90 (fP_X12_number 0 16 ⟨by decide, by decide⟩ ⟨by decide, by decide⟩) lm_X12_179 li_X12_number (by decide) (by decide) rfl rfl rfl (by decide) rfl rfl (Nat.le_of_ble_eq_true rfl) ⟨Nat.le_refl _, Or.inl rfl⟩ dX12_oddsLine_18 ⟨rfl, hV20, hg22⟩ (fun r37 V38 hp39 => ?_)
    obtain ⟨y40, rfl, b41, hV42, hF43, hg44, hE45⟩ := hp39
    replace hT := hT.trans (pf_call_eq hE45)
    change pm_J X 21 [(0, (3, 90))] [(0, y40)] 118 V38
    have hF46 := pm_fs.tr hF24 hF43 (by decide) (by decide)
    have e47 : V38 90 1 = y1 := by rw [hF43.2 1 (by decide)]; exact e25
    have e48 : V38 90 11 = y7 := by rw [hF43.2 11 (by decide)]; exact e26
    obtain ⟨y49, e50⟩ : ∃ y, V38 90 2 = y := ⟨_, rfl⟩
    have b51 := hV42.get 90 2 (lo := 0) (hi := 500) (by decide) (by decide) rfl
    rw [e50] at b51
    replace hT := hT.trans (pf_let_eq e50)
    obtain ⟨y52, e53⟩ : ∃ y, V38 90 3 = y := ⟨_, rfl⟩
    have b54 := hV42.get 90 3 (lo := 0) (hi := 4) (by decide) (by decide) rfl
    rw [e53] at b54
    replace hT := hT.trans (pf_let_eq e53)
    obtain ⟨y55, e56⟩ : ∃ y, V38 90 4 = y := ⟨_, rfl⟩
    have b57 := hV42.get 90 4 (lo := 0) (hi := 500) (by decide) (by decide) rfl
    rw [e56] at b57
    replace hT := hT.trans (pf_let_eq e56)
    obtain ⟨y58, e59⟩ : ∃ y, V38 90 37 = y := ⟨_, rfl⟩
    have b60 := hV42.get 90 37 (lo := (-2147483648)) (hi := 2147483647) (by decide) (by decide) rfl
    rw [e59] at b60
    replace hT := hT.trans (pf_let_eq e59)
    refine pm_if_ne (tgt := 26) hC ⟨by omega, by omega⟩ dX12_oddsLine_21 (by decide) (fun c61 => ?_) (fun c61 => ?_)
    · skip
      replace hT := hT.trans (if_pos c61)
      refine pm_aload_n hC 0 (by decide) dX12_oddsLine_26 rfl ?_
      refine pm_getf (v := y58) hC 90 fl_X12_151 rfl rfl (by decide) rfl e59 dX12_oddsLine_27 ?_
      refine pm_istore_n (lv' := [(1, (0, y58)), (0, (3, 90))]) hC dX12_oddsLine_30 (by decide) rfl ?_
      refine pm_aload_n hC 1 (by decide) dX12_oddsLine_31 rfl ?_
      refine pm_iconst (v := 1) hC dX12_oddsLine_32 ?_
      refine pm_bipush (v := 99) hC dX12_oddsLine_33 (by decide) ?_
      refine pm_callV (ci := 12) (as := [(0, 1), (0, 99)]) (st := []) hC 90 (fP_X12_number 1 99 ⟨by decide, by decide⟩ ⟨by decide, by decide⟩) lm_X12_179 li_X12_number (by decide) (by decide) rfl rfl rfl (by decide) rfl rfl (Nat.le_of_ble_eq_true rfl) ⟨Nat.le_refl _, Or.inl rfl⟩ dX12_oddsLine_35 ⟨rfl, hV42, hg44⟩ (fun r62 V63 hp64 => ?_)
      obtain ⟨y65, rfl, b66, hV67, hF68, hg69, hE70⟩ := hp64
      replace hT := hT.trans (pf_call_eq hE70)
      change pm_J X 38 [(1, (0, y58)), (0, (3, 90))] [(0, y65)] 118 V63
      have hF71 := pm_fs.tr hF46 hF68 (by decide) (by decide)
      have e72 : V63 90 1 = y1 := by rw [hF68.2 1 (by decide)]; exact e47
      have e73 : V63 90 11 = y7 := by rw [hF68.2 11 (by decide)]; exact e48
      obtain ⟨y74, e75⟩ : ∃ y, V63 90 2 = y := ⟨_, rfl⟩
      have b76 := hV67.get 90 2 (lo := 0) (hi := 500) (by decide) (by decide) rfl
      rw [e75] at b76
      replace hT := hT.trans (pf_let_eq e75)
      obtain ⟨y77, e78⟩ : ∃ y, V63 90 3 = y := ⟨_, rfl⟩
      have b79 := hV67.get 90 3 (lo := 0) (hi := 4) (by decide) (by decide) rfl
      rw [e78] at b79
      replace hT := hT.trans (pf_let_eq e78)
      obtain ⟨y80, e81⟩ : ∃ y, V63 90 4 = y := ⟨_, rfl⟩
      have b82 := hV67.get 90 4 (lo := 0) (hi := 500) (by decide) (by decide) rfl
      rw [e81] at b82
      replace hT := hT.trans (pf_let_eq e81)
      obtain ⟨y83, e84⟩ : ∃ y, V63 90 37 = y := ⟨_, rfl⟩
      have b85 := hV67.get 90 37 (lo := (-2147483648)) (hi := 2147483647) (by decide) (by decide) rfl
      rw [e84] at b85
      replace hT := hT.trans (pf_let_eq e84)
      refine pm_if_ne (tgt := 43) hC ⟨by omega, by omega⟩ dX12_oddsLine_38 (by decide) (fun c86 => ?_) (fun c86 => ?_)
      · skip
        replace hT := hT.trans (if_pos c86)
        refine pm_aload_n hC 1 (by decide) dX12_oddsLine_43 rfl ?_
        refine pm_iload_n hC 0 dX12_oddsLine_44 rfl ?_
        refine pm_putf hC 90 fl_X12_186 rfl rfl rfl (by decide) rfl trivial dX12_oddsLine_45 ?_
        refine pm_aload_n hC 1 (by decide) dX12_oddsLine_48 rfl ?_
        refine pm_aload_n hC 1 (by decide) dX12_oddsLine_49 rfl ?_
        refine pm_getf (v := y83) hC 90 fl_X12_151 rfl rfl (by decide) rfl e84 dX12_oddsLine_50 ?_
        refine pm_putf hC 90 fl_X12_189 rfl rfl rfl (by decide) rfl trivial dX12_oddsLine_53 ?_
        refine pm_aload_n hC 1 (by decide) dX12_oddsLine_56 rfl ?_
        have hV89 := ((hV67.put 90 11 (x := y58) (lo := (-1)) (hi := 16) rfl ⟨by omega, by omega⟩).put 90 12 (x := y83) (lo := 0) (hi := 99) rfl ⟨by omega, by omega⟩)
        have hF90 := ((hF71.upf 11 y58 rfl).upf 12 y83 rfl)
        obtain ⟨V87, hv88⟩ : ∃ V, V = (pm_up (pm_up V63 90 11 y58) 90 12 y83) := ⟨_, rfl⟩
        rw [← hv88] at hV89 hF90
        rw [← hv88]
        replace hT := hT.trans (pf_let_eq hv88.symm)
        have e91 : V87 90 1 = y1 := by rw [hv88]; exact e72
        have e92 : V87 90 2 = y74 := by rw [hv88]; exact e75
        have e93 : V87 90 3 = y77 := by rw [hv88]; exact e78
        have e94 : V87 90 4 = y80 := by rw [hv88]; exact e81
        have e95 : V87 90 37 = y83 := by rw [hv88]; exact e84
        have e96 : V87 90 11 = y58 := by rw [hv88]; rfl
        have e97 : V87 90 12 = y83 := by rw [hv88]; rfl
        have hp98 : pm_az V87 := by rw [hv88]; exact (pm_az.fr hg69 rfl rfl)
        refine pm_callV (ci := 12) (as := []) (st := []) hC 90 fP_X12_closes lm_X12_183 li_X12_closes (by decide) (by decide) rfl rfl rfl (by decide) rfl rfl (Nat.le_of_ble_eq_true rfl) ⟨Nat.le_refl _, Or.inl rfl⟩ dX12_oddsLine_57 ⟨rfl, hV89, hp98⟩ (fun r99 V100 hp101 => ?_)
        obtain ⟨y102, rfl, b103, hV104, hF105, hg106, hE107⟩ := hp101
        replace hT := hT.trans (pf_call_eq hE107)
        change pm_J X 60 [(1, (0, y58)), (0, (3, 90))] [(0, y102)] 118 V100
        have hF108 := pm_fs.tr hF90 hF105 (by decide) (by decide)
        have e109 : V100 90 1 = y1 := by rw [hF105.2 1 (by decide)]; exact e91
        have e110 : V100 90 37 = y83 := by rw [hF105.2 37 (by decide)]; exact e95
        have e111 : V100 90 11 = y58 := by rw [hF105.2 11 (by decide)]; exact e96
        have e112 : V100 90 12 = y83 := by rw [hF105.2 12 (by decide)]; exact e97
        obtain ⟨y113, e114⟩ : ∃ y, V100 90 2 = y := ⟨_, rfl⟩
        have b115 := hV104.get 90 2 (lo := 0) (hi := 500) (by decide) (by decide) rfl
        rw [e114] at b115
        replace hT := hT.trans (pf_let_eq e114)
        obtain ⟨y116, e117⟩ : ∃ y, V100 90 3 = y := ⟨_, rfl⟩
        have b118 := hV104.get 90 3 (lo := 0) (hi := 4) (by decide) (by decide) rfl
        rw [e117] at b118
        replace hT := hT.trans (pf_let_eq e117)
        obtain ⟨y119, e120⟩ : ∃ y, V100 90 4 = y := ⟨_, rfl⟩
        have b121 := hV104.get 90 4 (lo := 0) (hi := 500) (by decide) (by decide) rfl
        rw [e120] at b121
        replace hT := hT.trans (pf_let_eq e120)
        exact pm_iret hC hR (pm_narZ (by omega)) ⟨y102, rfl, ⟨by omega, by omega, by omega, by omega⟩, hV104, hF108, hg106, hT⟩ dX12_oddsLine_60
      · skip
        replace hT := hT.trans (if_neg (fun q => q c86))
        refine pm_iconst (v := 0) hC dX12_oddsLine_41 ?_
        exact pm_iret hC hR (pm_narZ (by omega)) ⟨0, rfl, ⟨by omega, by omega, by omega, by omega⟩, hV67, hF71, hg69, hT⟩ dX12_oddsLine_42
    · skip
      replace hT := hT.trans (if_neg (fun q => q c61))
      refine pm_iconst (v := 0) hC dX12_oddsLine_24 ?_
      exact pm_iret hC hR (pm_narZ (by omega)) ⟨0, rfl, ⟨by omega, by omega, by omega, by omega⟩, hV42, hF46, hg44, hT⟩ dX12_oddsLine_25
  · skip
    replace hT := hT.trans (if_neg c10)
    refine pm_iconst (v := 0) hC dX12_oddsLine_8 ?_
    obtain ⟨y122, e123⟩ : ∃ y, V0 90 3 = y := ⟨_, rfl⟩
    have b124 := hV0.get 90 3 (lo := 0) (hi := 4) (by decide) (by decide) rfl
    rw [e123] at b124
    replace hT := hT.trans (pf_let_eq e123)
    obtain ⟨y125, e126⟩ : ∃ y, V0 90 4 = y := ⟨_, rfl⟩
    have b127 := hV0.get 90 4 (lo := 0) (hi := 500) (by decide) (by decide) rfl
    rw [e126] at b127
    replace hT := hT.trans (pf_let_eq e126)
    exact pm_iret hC hR (pm_narZ (by omega)) ⟨0, rfl, ⟨by omega, by omega, by omega, by omega⟩, hV0, (pm_fs.rf (cs := []) (fs := [2, 3, 4, 5, 11, 12, 37]) (V := V0)), hn_pm_az, hT⟩ dX12_oddsLine_9
set_option maxHeartbeats 4000000 in
set_option maxRecDepth 100000 in
theorem fP_X12_spanLine_d2  : pm_K 4 yX12_spanLine cX12_spanLine 3 (some .boolean) (fun av V => av = [(3, 90), (0, 2)] ∧ pm_oq pm_qP V ∧ pm_az V) (fun _ V r V' => ∃ y, r = some (0, y) ∧ (0 ≤ y ∧ y ≤ 1 ∧ (y = 1 → V' 90 3 ≤ 5 * (V' 90 2 - V 90 2)) ∧ (V 90 2 ≤ V' 90 2)) ∧ pm_oq pm_qP V' ∧ pm_fs [95] [2, 3, 4, 5, 37] V V' ∧ pm_az V' ∧ F_X12_spanLine_d2  V = (y, V')) := by
  refine pm_MT.of (by decide) ⟨Nat.le_refl _, by decide⟩ (fun av V h => by rw [h.1]; exact (by decide : pm_words [(3, 0), (0, 0)] ≤ 3)) ?_
  rintro X av V0 hC - hR ⟨rfl, hV0, hn_pm_az⟩
  change pm_J X 0 [(0, (3, 90)), (1, (0, 2))] [] 118 V0
  have hT := F_X12_spanLine_d2_eq  V0
  obtain ⟨y1, e2⟩ : ∃ y, V0 90 1 = y := ⟨_, rfl⟩
  have b3 := hV0.get 90 1 (lo := 0) (hi := 500) (by decide) (by decide) rfl
  rw [e2] at b3
  replace hT := hT.trans (pf_let_eq e2)
  obtain ⟨y4, e5⟩ : ∃ y, V0 90 2 = y := ⟨_, rfl⟩
  have b6 := hV0.get 90 2 (lo := 0) (hi := 500) (by decide) (by decide) rfl
  rw [e5] at b6
  replace hT := hT.trans (pf_let_eq e5)
  have hsz := hn_pm_az
  unfold pm_az at hsz
  rw [e5, e2] at hsz
  refine pm_aload_n hC 0 (by decide) dX12_spanLine_0 rfl ?_
  have e7 : V0 90 10 = 95 := hV0.one 90 10 (by decide) (by decide) rfl
  refine pm_getf (v := 95) hC 90 fl_X12_25 rfl rfl (by decide) rfl e7 dX12_spanLine_1 ?_
  refine pm_iload_n hC 1 dX12_spanLine_4 rfl ?_
  obtain ⟨y8, e9⟩ : ∃ y, V0 95 (2 : Int).toNat = y := ⟨_, rfl⟩
  replace hT := hT.trans (pf_let_eq e9)
  have b10 := hV0.get 95 (2 : Int).toNat (lo := (-1)) (hi := 60) (t := 0) (by decide) (show _ < 4 by omega) rfl
  rw [e9] at b10
  refine pm_iaload (len := 4) (v := y8) hC 95 rfl rfl (by decide) ⟨by decide, by decide⟩ (by decide) e9 dX12_spanLine_5 ?_
  refine pm_iconst (v := (-1)) hC dX12_spanLine_6 ?_
  refine pm_icmp_eq (tgt := 12) hC ⟨by omega, by omega⟩ ⟨by decide, by decide⟩ dX12_spanLine_7 (by decide) (fun c11 => ?_) (fun c11 => ?_)
  · skip
    replace hT := hT.trans (if_pos c11)
    refine pm_aload_n hC 0 (by decide) dX12_spanLine_12 rfl ?_
    obtain ⟨y12, e13⟩ : ∃ y, V0 90 3 = y := ⟨_, rfl⟩
    have b14 := hV0.get 90 3 (lo := 0) (hi := 4) (by decide) (by decide) rfl
    rw [e13] at b14
    replace hT := hT.trans (pf_let_eq e13)
    obtain ⟨y15, e16⟩ : ∃ y, V0 90 4 = y := ⟨_, rfl⟩
    have b17 := hV0.get 90 4 (lo := 0) (hi := 500) (by decide) (by decide) rfl
    rw [e16] at b17
    replace hT := hT.trans (pf_let_eq e16)
    refine pm_callV (ci := 12) (as := []) (st := []) hC 90 fP_X12_leads lm_X12_148 li_X12_leads (by decide) (by decide) rfl rfl rfl (by decide) rfl rfl (Nat.le_of_ble_eq_true rfl) ⟨Nat.le_refl _, Or.inl rfl⟩ dX12_spanLine_13 ⟨rfl, hV0, hn_pm_az⟩ (fun r18 V19 hp20 => ?_)
    obtain ⟨rfl, hV21, hF22, hg23, hE24⟩ := hp20
    replace hT := hT.trans (pf_call_eq hE24)
    change pm_J X 16 [(0, (3, 90)), (1, (0, 2))] [] 118 V19
    have hF25 := pm_fs.tr (pm_fs.rf (cs := [95]) (fs := [2, 3, 4, 5, 37]) (V := V0)) hF22 (by decide) (by decide)
    have e26 : V19 90 1 = y1 := by rw [hF22.2 1 (by decide)]; exact e2
    have e27 : V19 90 10 = 95 := by rw [hF22.2 10 (by decide)]; exact e7
    obtain ⟨y28, e29⟩ : ∃ y, V19 90 2 = y := ⟨_, rfl⟩
    have b30 := hV21.get 90 2 (lo := 0) (hi := 500) (by decide) (by decide) rfl
    rw [e29] at b30
    replace hT := hT.trans (pf_let_eq e29)
    obtain ⟨y31, e32⟩ : ∃ y, V19 90 3 = y := ⟨_, rfl⟩
    have b33 := hV21.get 90 3 (lo := 0) (hi := 4) (by decide) (by decide) rfl
    rw [e32] at b33
    replace hT := hT.trans (pf_let_eq e32)
    obtain ⟨y34, e35⟩ : ∃ y, V19 90 4 = y := ⟨_, rfl⟩
    have b36 := hV21.get 90 4 (lo := 0) (hi := 500) (by decide) (by decide) rfl
    rw [e35] at b36
    replace hT := hT.trans (pf_let_eq e35)
    have hpr37 := r_leads_pr hV0 hn_pm_az hE24
    refine pm_aload_n hC 0 (by decide) dX12_spanLine_16 rfl ?_
    refine pm_iconst (v := 1) hC dX12_spanLine_17 ?_
    refine pm_bipush (v := 60) hC dX12_spanLine_18 (by decide) ?_
    refine pm_callV (ci := 12) (as := [(0, 1), (0, 60)]) (st := []) hC 90 (fP_X12_number 1 60 ⟨by decide, by decide⟩ ⟨by decide, by decide⟩) lm_X12_179 li_X12_number (by decide) (by decide) rfl rfl rfl (by decide) rfl rfl (Nat.le_of_ble_eq_true rfl) ⟨Nat.le_refl _, Or.inl rfl⟩ dX12_spanLine_20 ⟨rfl, hV21, hg23⟩ (fun r38 V39 hp40 => ?_)
    obtain ⟨y41, rfl, b42, hV43, hF44, hg45, hE46⟩ := hp40
    replace hT := hT.trans (pf_call_eq hE46)
    change pm_J X 23 [(0, (3, 90)), (1, (0, 2))] [(0, y41)] 118 V39
    have hF47 := pm_fs.tr hF25 hF44 (by decide) (by decide)
    have e48 : V39 90 1 = y1 := by rw [hF44.2 1 (by decide)]; exact e26
    have e49 : V39 90 10 = 95 := by rw [hF44.2 10 (by decide)]; exact e27
    obtain ⟨y50, e51⟩ : ∃ y, V39 90 2 = y := ⟨_, rfl⟩
    have b52 := hV43.get 90 2 (lo := 0) (hi := 500) (by decide) (by decide) rfl
    rw [e51] at b52
    replace hT := hT.trans (pf_let_eq e51)
    obtain ⟨y53, e54⟩ : ∃ y, V39 90 3 = y := ⟨_, rfl⟩
    have b55 := hV43.get 90 3 (lo := 0) (hi := 4) (by decide) (by decide) rfl
    rw [e54] at b55
    replace hT := hT.trans (pf_let_eq e54)
    obtain ⟨y56, e57⟩ : ∃ y, V39 90 4 = y := ⟨_, rfl⟩
    have b58 := hV43.get 90 4 (lo := 0) (hi := 500) (by decide) (by decide) rfl
    rw [e57] at b58
    replace hT := hT.trans (pf_let_eq e57)
    obtain ⟨y59, e60⟩ : ∃ y, V39 90 37 = y := ⟨_, rfl⟩
    have b61 := hV43.get 90 37 (lo := (-2147483648)) (hi := 2147483647) (by decide) (by decide) rfl
    rw [e60] at b61
    replace hT := hT.trans (pf_let_eq e60)
    refine pm_if_ne (tgt := 28) hC ⟨by omega, by omega⟩ dX12_spanLine_23 (by decide) (fun c62 => ?_) (fun c62 => ?_)
    · skip
      replace hT := hT.trans (if_pos c62)
      refine pm_aload_n hC 0 (by decide) dX12_spanLine_28 rfl ?_
      refine pm_getf (v := y59) hC 90 fl_X12_151 rfl rfl (by decide) rfl e60 dX12_spanLine_29 ?_
      refine pm_istore_n (lv' := [(2, (0, y59)), (0, (3, 90)), (1, (0, 2))]) hC dX12_spanLine_32 (by decide) rfl ?_
      refine pm_aload_n hC 1 (by decide) dX12_spanLine_33 rfl ?_
      refine pm_iconst (v := 0) hC dX12_spanLine_34 ?_
      refine pm_bipush (v := 9) hC dX12_spanLine_35 (by decide) ?_
      refine pm_callV (ci := 12) (as := [(0, 0), (0, 9)]) (st := []) hC 90 (fP_X12_number 0 9 ⟨by decide, by decide⟩ ⟨by decide, by decide⟩) lm_X12_179 li_X12_number (by decide) (by decide) rfl rfl rfl (by decide) rfl rfl (Nat.le_of_ble_eq_true rfl) ⟨Nat.le_refl _, Or.inl rfl⟩ dX12_spanLine_37 ⟨rfl, hV43, hg45⟩ (fun r63 V64 hp65 => ?_)
      obtain ⟨y66, rfl, b67, hV68, hF69, hg70, hE71⟩ := hp65
      replace hT := hT.trans (pf_call_eq hE71)
      change pm_J X 40 [(2, (0, y59)), (0, (3, 90)), (1, (0, 2))] [(0, y66)] 118 V64
      have hF72 := pm_fs.tr hF47 hF69 (by decide) (by decide)
      have e73 : V64 90 1 = y1 := by rw [hF69.2 1 (by decide)]; exact e48
      have e74 : V64 90 10 = 95 := by rw [hF69.2 10 (by decide)]; exact e49
      obtain ⟨y75, e76⟩ : ∃ y, V64 90 2 = y := ⟨_, rfl⟩
      have b77 := hV68.get 90 2 (lo := 0) (hi := 500) (by decide) (by decide) rfl
      rw [e76] at b77
      replace hT := hT.trans (pf_let_eq e76)
      obtain ⟨y78, e79⟩ : ∃ y, V64 90 3 = y := ⟨_, rfl⟩
      have b80 := hV68.get 90 3 (lo := 0) (hi := 4) (by decide) (by decide) rfl
      rw [e79] at b80
      replace hT := hT.trans (pf_let_eq e79)
      obtain ⟨y81, e82⟩ : ∃ y, V64 90 4 = y := ⟨_, rfl⟩
      have b83 := hV68.get 90 4 (lo := 0) (hi := 500) (by decide) (by decide) rfl
      rw [e82] at b83
      replace hT := hT.trans (pf_let_eq e82)
      obtain ⟨y84, e85⟩ : ∃ y, V64 90 37 = y := ⟨_, rfl⟩
      have b86 := hV68.get 90 37 (lo := (-2147483648)) (hi := 2147483647) (by decide) (by decide) rfl
      rw [e85] at b86
      replace hT := hT.trans (pf_let_eq e85)
      refine pm_if_ne (tgt := 45) hC ⟨by omega, by omega⟩ dX12_spanLine_40 (by decide) (fun c87 => ?_) (fun c87 => ?_)
      · skip
        replace hT := hT.trans (if_pos c87)
        refine pm_aload_n hC 1 (by decide) dX12_spanLine_45 rfl ?_
        refine pm_getf (v := 95) hC 90 fl_X12_25 rfl rfl (by decide) rfl e74 dX12_spanLine_46 ?_
        refine pm_iload_n hC 2 dX12_spanLine_49 rfl ?_
        refine pm_iload_n hC 0 dX12_spanLine_50 rfl ?_
        refine pm_iastore (len := 4) hC 95 rfl rfl (by decide) ⟨by decide, by decide⟩ (by decide) dX12_spanLine_51 ?_
        refine pm_aload_n hC 1 (by decide) dX12_spanLine_52 rfl ?_
        refine pm_getf (v := 95) hC 90 fl_X12_25 rfl rfl (by decide) rfl e74 dX12_spanLine_53 ?_
        refine pm_iload_n hC 2 dX12_spanLine_56 rfl ?_
        refine pm_iconst (v := 1) hC dX12_spanLine_57 ?_
        refine pm_iadd hC dX12_spanLine_58 ?_
        change pm_J X 59 [(2, (0, y59)), (0, (3, 90)), (1, (0, 2))] [(0, 3), (3, 95)] 118 (pm_up V64 95 (2 : Int).toNat y59)
        refine pm_aload_n hC 1 (by decide) dX12_spanLine_59 rfl ?_
        refine pm_getf (v := y84) hC 90 fl_X12_151 rfl rfl (by decide) rfl e85 dX12_spanLine_60 ?_
        refine pm_iastore (len := 4) hC 95 rfl rfl (by decide) ⟨by decide, by decide⟩ (by decide) dX12_spanLine_63 ?_
        refine pm_aload_n hC 1 (by decide) dX12_spanLine_64 rfl ?_
        have hV90 := ((hV68.put 95 (2 : Int).toNat (x := y59) (lo := (-1)) (hi := 60) ((pm_qe_r (tb := pm_qP) (k := 95) (i := (2 : Int).toNat) (m := 4) (r := 2) (l := [(-1, 60, 0), (0, 9, 0), (-1, 60, 0), (0, 9, 0)]) rfl rfl (by omega)).trans rfl) ⟨by omega, by omega⟩).put 95 (3 : Int).toNat (x := y84) (lo := 0) (hi := 9) ((pm_qe_r (tb := pm_qP) (k := 95) (i := (3 : Int).toNat) (m := 4) (r := 3) (l := [(-1, 60, 0), (0, 9, 0), (-1, 60, 0), (0, 9, 0)]) rfl rfl (by omega)).trans rfl) ⟨by omega, by omega⟩)
        have hF91 := ((hF72.up 95 (2 : Int).toNat y59 (by decide) rfl).up 95 (3 : Int).toNat y84 (by decide) rfl)
        obtain ⟨V88, hv89⟩ : ∃ V, V = (pm_up (pm_up V64 95 (2 : Int).toNat y59) 95 (3 : Int).toNat y84) := ⟨_, rfl⟩
        rw [← hv89] at hV90 hF91
        rw [← hv89]
        replace hT := hT.trans (pf_let_eq hv89.symm)
        have e92 : V88 90 1 = y1 := by rw [hv89]; exact e73
        have e93 : V88 90 10 = 95 := by rw [hv89]; exact e74
        have e94 : V88 90 2 = y75 := by rw [hv89]; exact e76
        have e95 : V88 90 3 = y78 := by rw [hv89]; exact e79
        have e96 : V88 90 4 = y81 := by rw [hv89]; exact e82
        have e97 : V88 90 37 = y84 := by rw [hv89]; exact e85
        have hp98 : pm_az V88 := by rw [hv89]; exact (pm_az.fr hg70 rfl rfl)
        refine pm_callV (ci := 12) (as := []) (st := []) hC 90 fP_X12_closes lm_X12_183 li_X12_closes (by decide) (by decide) rfl rfl rfl (by decide) rfl rfl (Nat.le_of_ble_eq_true rfl) ⟨Nat.le_refl _, Or.inl rfl⟩ dX12_spanLine_65 ⟨rfl, hV90, hp98⟩ (fun r99 V100 hp101 => ?_)
        obtain ⟨y102, rfl, b103, hV104, hF105, hg106, hE107⟩ := hp101
        replace hT := hT.trans (pf_call_eq hE107)
        change pm_J X 68 [(2, (0, y59)), (0, (3, 90)), (1, (0, 2))] [(0, y102)] 118 V100
        have hF108 := pm_fs.tr hF91 hF105 (by decide) (by decide)
        have e109 : V100 90 1 = y1 := by rw [hF105.2 1 (by decide)]; exact e92
        have e110 : V100 90 10 = 95 := by rw [hF105.2 10 (by decide)]; exact e93
        have e111 : V100 90 37 = y84 := by rw [hF105.2 37 (by decide)]; exact e97
        obtain ⟨y112, e113⟩ : ∃ y, V100 90 2 = y := ⟨_, rfl⟩
        have b114 := hV104.get 90 2 (lo := 0) (hi := 500) (by decide) (by decide) rfl
        rw [e113] at b114
        replace hT := hT.trans (pf_let_eq e113)
        obtain ⟨y115, e116⟩ : ∃ y, V100 90 3 = y := ⟨_, rfl⟩
        have b117 := hV104.get 90 3 (lo := 0) (hi := 4) (by decide) (by decide) rfl
        rw [e116] at b117
        replace hT := hT.trans (pf_let_eq e116)
        obtain ⟨y118, e119⟩ : ∃ y, V100 90 4 = y := ⟨_, rfl⟩
        have b120 := hV104.get 90 4 (lo := 0) (hi := 500) (by decide) (by decide) rfl
        rw [e119] at b120
        replace hT := hT.trans (pf_let_eq e119)
        exact pm_iret hC hR (pm_narZ (by omega)) ⟨y102, rfl, ⟨by omega, by omega, by omega, by omega⟩, hV104, hF108, hg106, hT⟩ dX12_spanLine_68
      · skip
        replace hT := hT.trans (if_neg (fun q => q c87))
        refine pm_iconst (v := 0) hC dX12_spanLine_43 ?_
        exact pm_iret hC hR (pm_narZ (by omega)) ⟨0, rfl, ⟨by omega, by omega, by omega, by omega⟩, hV68, hF72, hg70, hT⟩ dX12_spanLine_44
    · skip
      replace hT := hT.trans (if_neg (fun q => q c62))
      refine pm_iconst (v := 0) hC dX12_spanLine_26 ?_
      exact pm_iret hC hR (pm_narZ (by omega)) ⟨0, rfl, ⟨by omega, by omega, by omega, by omega⟩, hV43, hF47, hg45, hT⟩ dX12_spanLine_27
  · skip
    replace hT := hT.trans (if_neg c11)
    refine pm_iconst (v := 0) hC dX12_spanLine_10 ?_
    obtain ⟨y121, e122⟩ : ∃ y, V0 90 3 = y := ⟨_, rfl⟩
    have b123 := hV0.get 90 3 (lo := 0) (hi := 4) (by decide) (by decide) rfl
    rw [e122] at b123
    replace hT := hT.trans (pf_let_eq e122)
    obtain ⟨y124, e125⟩ : ∃ y, V0 90 4 = y := ⟨_, rfl⟩
    have b126 := hV0.get 90 4 (lo := 0) (hi := 500) (by decide) (by decide) rfl
    rw [e125] at b126
    replace hT := hT.trans (pf_let_eq e125)
    exact pm_iret hC hR (pm_narZ (by omega)) ⟨0, rfl, ⟨by omega, by omega, by omega, by omega⟩, hV0, (pm_fs.rf (cs := [95]) (fs := [2, 3, 4, 5, 37]) (V := V0)), hn_pm_az, hT⟩ dX12_spanLine_11
set_option maxHeartbeats 4000000 in
set_option maxRecDepth 100000 in
theorem fP_X12_spanLine_d0  : pm_K 4 yX12_spanLine cX12_spanLine 3 (some .boolean) (fun av V => av = [(3, 90), (0, 0)] ∧ pm_oq pm_qP V ∧ pm_az V) (fun _ V r V' => ∃ y, r = some (0, y) ∧ (0 ≤ y ∧ y ≤ 1 ∧ (y = 1 → V' 90 3 ≤ 5 * (V' 90 2 - V 90 2)) ∧ (V 90 2 ≤ V' 90 2)) ∧ pm_oq pm_qP V' ∧ pm_fs [95] [2, 3, 4, 5, 37] V V' ∧ pm_az V' ∧ F_X12_spanLine_d0  V = (y, V')) := by
  refine pm_MT.of (by decide) ⟨Nat.le_refl _, by decide⟩ (fun av V h => by rw [h.1]; exact (by decide : pm_words [(3, 0), (0, 0)] ≤ 3)) ?_
  rintro X av V0 hC - hR ⟨rfl, hV0, hn_pm_az⟩
  change pm_J X 0 [(0, (3, 90)), (1, (0, 0))] [] 118 V0
  have hT := F_X12_spanLine_d0_eq  V0
  obtain ⟨y1, e2⟩ : ∃ y, V0 90 1 = y := ⟨_, rfl⟩
  have b3 := hV0.get 90 1 (lo := 0) (hi := 500) (by decide) (by decide) rfl
  rw [e2] at b3
  replace hT := hT.trans (pf_let_eq e2)
  obtain ⟨y4, e5⟩ : ∃ y, V0 90 2 = y := ⟨_, rfl⟩
  have b6 := hV0.get 90 2 (lo := 0) (hi := 500) (by decide) (by decide) rfl
  rw [e5] at b6
  replace hT := hT.trans (pf_let_eq e5)
  have hsz := hn_pm_az
  unfold pm_az at hsz
  rw [e5, e2] at hsz
  refine pm_aload_n hC 0 (by decide) dX12_spanLine_0 rfl ?_
  have e7 : V0 90 10 = 95 := hV0.one 90 10 (by decide) (by decide) rfl
  refine pm_getf (v := 95) hC 90 fl_X12_25 rfl rfl (by decide) rfl e7 dX12_spanLine_1 ?_
  refine pm_iload_n hC 1 dX12_spanLine_4 rfl ?_
  obtain ⟨y8, e9⟩ : ∃ y, V0 95 (0 : Int).toNat = y := ⟨_, rfl⟩
  replace hT := hT.trans (pf_let_eq e9)
  have b10 := hV0.get 95 (0 : Int).toNat (lo := (-1)) (hi := 60) (t := 0) (by decide) (show _ < 4 by omega) rfl
  rw [e9] at b10
  refine pm_iaload (len := 4) (v := y8) hC 95 rfl rfl (by decide) ⟨by decide, by decide⟩ (by decide) e9 dX12_spanLine_5 ?_
  refine pm_iconst (v := (-1)) hC dX12_spanLine_6 ?_
  refine pm_icmp_eq (tgt := 12) hC ⟨by omega, by omega⟩ ⟨by decide, by decide⟩ dX12_spanLine_7 (by decide) (fun c11 => ?_) (fun c11 => ?_)
  · skip
    replace hT := hT.trans (if_pos c11)
    refine pm_aload_n hC 0 (by decide) dX12_spanLine_12 rfl ?_
    obtain ⟨y12, e13⟩ : ∃ y, V0 90 3 = y := ⟨_, rfl⟩
    have b14 := hV0.get 90 3 (lo := 0) (hi := 4) (by decide) (by decide) rfl
    rw [e13] at b14
    replace hT := hT.trans (pf_let_eq e13)
    obtain ⟨y15, e16⟩ : ∃ y, V0 90 4 = y := ⟨_, rfl⟩
    have b17 := hV0.get 90 4 (lo := 0) (hi := 500) (by decide) (by decide) rfl
    rw [e16] at b17
    replace hT := hT.trans (pf_let_eq e16)
    refine pm_callV (ci := 12) (as := []) (st := []) hC 90 fP_X12_leads lm_X12_148 li_X12_leads (by decide) (by decide) rfl rfl rfl (by decide) rfl rfl (Nat.le_of_ble_eq_true rfl) ⟨Nat.le_refl _, Or.inl rfl⟩ dX12_spanLine_13 ⟨rfl, hV0, hn_pm_az⟩ (fun r18 V19 hp20 => ?_)
    obtain ⟨rfl, hV21, hF22, hg23, hE24⟩ := hp20
    replace hT := hT.trans (pf_call_eq hE24)
    change pm_J X 16 [(0, (3, 90)), (1, (0, 0))] [] 118 V19
    have hF25 := pm_fs.tr (pm_fs.rf (cs := [95]) (fs := [2, 3, 4, 5, 37]) (V := V0)) hF22 (by decide) (by decide)
    have e26 : V19 90 1 = y1 := by rw [hF22.2 1 (by decide)]; exact e2
    have e27 : V19 90 10 = 95 := by rw [hF22.2 10 (by decide)]; exact e7
    obtain ⟨y28, e29⟩ : ∃ y, V19 90 2 = y := ⟨_, rfl⟩
    have b30 := hV21.get 90 2 (lo := 0) (hi := 500) (by decide) (by decide) rfl
    rw [e29] at b30
    replace hT := hT.trans (pf_let_eq e29)
    obtain ⟨y31, e32⟩ : ∃ y, V19 90 3 = y := ⟨_, rfl⟩
    have b33 := hV21.get 90 3 (lo := 0) (hi := 4) (by decide) (by decide) rfl
    rw [e32] at b33
    replace hT := hT.trans (pf_let_eq e32)
    obtain ⟨y34, e35⟩ : ∃ y, V19 90 4 = y := ⟨_, rfl⟩
    have b36 := hV21.get 90 4 (lo := 0) (hi := 500) (by decide) (by decide) rfl
    rw [e35] at b36
    replace hT := hT.trans (pf_let_eq e35)
    have hpr37 := r_leads_pr hV0 hn_pm_az hE24
    refine pm_aload_n hC 0 (by decide) dX12_spanLine_16 rfl ?_
    refine pm_iconst (v := 1) hC dX12_spanLine_17 ?_
    refine pm_bipush (v := 60) hC dX12_spanLine_18 (by decide) ?_
    refine pm_callV (ci := 12) (as := [(0, 1), (0, 60)]) (st := []) hC 90 (fP_X12_number 1 60 ⟨by decide, by decide⟩ ⟨by decide, by decide⟩) lm_X12_179 li_X12_number (by decide) (by decide) rfl rfl rfl (by decide) rfl rfl (Nat.le_of_ble_eq_true rfl) ⟨Nat.le_refl _, Or.inl rfl⟩ dX12_spanLine_20 ⟨rfl, hV21, hg23⟩ (fun r38 V39 hp40 => ?_)
    obtain ⟨y41, rfl, b42, hV43, hF44, hg45, hE46⟩ := hp40
    replace hT := hT.trans (pf_call_eq hE46)
    change pm_J X 23 [(0, (3, 90)), (1, (0, 0))] [(0, y41)] 118 V39
    have hF47 := pm_fs.tr hF25 hF44 (by decide) (by decide)
    have e48 : V39 90 1 = y1 := by rw [hF44.2 1 (by decide)]; exact e26
    have e49 : V39 90 10 = 95 := by rw [hF44.2 10 (by decide)]; exact e27
    obtain ⟨y50, e51⟩ : ∃ y, V39 90 2 = y := ⟨_, rfl⟩
    have b52 := hV43.get 90 2 (lo := 0) (hi := 500) (by decide) (by decide) rfl
    rw [e51] at b52
    replace hT := hT.trans (pf_let_eq e51)
    obtain ⟨y53, e54⟩ : ∃ y, V39 90 3 = y := ⟨_, rfl⟩
    have b55 := hV43.get 90 3 (lo := 0) (hi := 4) (by decide) (by decide) rfl
    rw [e54] at b55
    replace hT := hT.trans (pf_let_eq e54)
    obtain ⟨y56, e57⟩ : ∃ y, V39 90 4 = y := ⟨_, rfl⟩
    have b58 := hV43.get 90 4 (lo := 0) (hi := 500) (by decide) (by decide) rfl
    rw [e57] at b58
    replace hT := hT.trans (pf_let_eq e57)
    obtain ⟨y59, e60⟩ : ∃ y, V39 90 37 = y := ⟨_, rfl⟩
    have b61 := hV43.get 90 37 (lo := (-2147483648)) (hi := 2147483647) (by decide) (by decide) rfl
    rw [e60] at b61
    replace hT := hT.trans (pf_let_eq e60)
    refine pm_if_ne (tgt := 28) hC ⟨by omega, by omega⟩ dX12_spanLine_23 (by decide) (fun c62 => ?_) (fun c62 => ?_)
    · skip
      replace hT := hT.trans (if_pos c62)
      refine pm_aload_n hC 0 (by decide) dX12_spanLine_28 rfl ?_
      refine pm_getf (v := y59) hC 90 fl_X12_151 rfl rfl (by decide) rfl e60 dX12_spanLine_29 ?_
      refine pm_istore_n (lv' := [(2, (0, y59)), (0, (3, 90)), (1, (0, 0))]) hC dX12_spanLine_32 (by decide) rfl ?_
      refine pm_aload_n hC 1 (by decide) dX12_spanLine_33 rfl ?_
      refine pm_iconst (v := 0) hC dX12_spanLine_34 ?_
      refine pm_bipush (v := 9) hC dX12_spanLine_35 (by decide) ?_
      refine pm_callV (ci := 12) (as := [(0, 0), (0, 9)]) (st := []) hC 90 (fP_X12_number 0 9 ⟨by decide, by decide⟩ ⟨by decide, by decide⟩) lm_X12_179 li_X12_number (by decide) (by decide) rfl rfl rfl (by decide) rfl rfl (Nat.le_of_ble_eq_true rfl) ⟨Nat.le_refl _, Or.inl rfl⟩ dX12_spanLine_37 ⟨rfl, hV43, hg45⟩ (fun r63 V64 hp65 => ?_)
      obtain ⟨y66, rfl, b67, hV68, hF69, hg70, hE71⟩ := hp65
      replace hT := hT.trans (pf_call_eq hE71)
      change pm_J X 40 [(2, (0, y59)), (0, (3, 90)), (1, (0, 0))] [(0, y66)] 118 V64
      have hF72 := pm_fs.tr hF47 hF69 (by decide) (by decide)
      have e73 : V64 90 1 = y1 := by rw [hF69.2 1 (by decide)]; exact e48
      have e74 : V64 90 10 = 95 := by rw [hF69.2 10 (by decide)]; exact e49
      obtain ⟨y75, e76⟩ : ∃ y, V64 90 2 = y := ⟨_, rfl⟩
      have b77 := hV68.get 90 2 (lo := 0) (hi := 500) (by decide) (by decide) rfl
      rw [e76] at b77
      replace hT := hT.trans (pf_let_eq e76)
      obtain ⟨y78, e79⟩ : ∃ y, V64 90 3 = y := ⟨_, rfl⟩
      have b80 := hV68.get 90 3 (lo := 0) (hi := 4) (by decide) (by decide) rfl
      rw [e79] at b80
      replace hT := hT.trans (pf_let_eq e79)
      obtain ⟨y81, e82⟩ : ∃ y, V64 90 4 = y := ⟨_, rfl⟩
      have b83 := hV68.get 90 4 (lo := 0) (hi := 500) (by decide) (by decide) rfl
      rw [e82] at b83
      replace hT := hT.trans (pf_let_eq e82)
      obtain ⟨y84, e85⟩ : ∃ y, V64 90 37 = y := ⟨_, rfl⟩
      have b86 := hV68.get 90 37 (lo := (-2147483648)) (hi := 2147483647) (by decide) (by decide) rfl
      rw [e85] at b86
      replace hT := hT.trans (pf_let_eq e85)
      refine pm_if_ne (tgt := 45) hC ⟨by omega, by omega⟩ dX12_spanLine_40 (by decide) (fun c87 => ?_) (fun c87 => ?_)
      · skip
        replace hT := hT.trans (if_pos c87)
        refine pm_aload_n hC 1 (by decide) dX12_spanLine_45 rfl ?_
        refine pm_getf (v := 95) hC 90 fl_X12_25 rfl rfl (by decide) rfl e74 dX12_spanLine_46 ?_
        refine pm_iload_n hC 2 dX12_spanLine_49 rfl ?_
        refine pm_iload_n hC 0 dX12_spanLine_50 rfl ?_
        refine pm_iastore (len := 4) hC 95 rfl rfl (by decide) ⟨by decide, by decide⟩ (by decide) dX12_spanLine_51 ?_
        refine pm_aload_n hC 1 (by decide) dX12_spanLine_52 rfl ?_
        refine pm_getf (v := 95) hC 90 fl_X12_25 rfl rfl (by decide) rfl e74 dX12_spanLine_53 ?_
        refine pm_iload_n hC 2 dX12_spanLine_56 rfl ?_
        refine pm_iconst (v := 1) hC dX12_spanLine_57 ?_
        refine pm_iadd hC dX12_spanLine_58 ?_
        change pm_J X 59 [(2, (0, y59)), (0, (3, 90)), (1, (0, 0))] [(0, 1), (3, 95)] 118 (pm_up V64 95 (0 : Int).toNat y59)
        refine pm_aload_n hC 1 (by decide) dX12_spanLine_59 rfl ?_
        refine pm_getf (v := y84) hC 90 fl_X12_151 rfl rfl (by decide) rfl e85 dX12_spanLine_60 ?_
        refine pm_iastore (len := 4) hC 95 rfl rfl (by decide) ⟨by decide, by decide⟩ (by decide) dX12_spanLine_63 ?_
        refine pm_aload_n hC 1 (by decide) dX12_spanLine_64 rfl ?_
        have hV90 := ((hV68.put 95 (0 : Int).toNat (x := y59) (lo := (-1)) (hi := 60) ((pm_qe_r (tb := pm_qP) (k := 95) (i := (0 : Int).toNat) (m := 4) (r := 0) (l := [(-1, 60, 0), (0, 9, 0), (-1, 60, 0), (0, 9, 0)]) rfl rfl (by omega)).trans rfl) ⟨by omega, by omega⟩).put 95 (1 : Int).toNat (x := y84) (lo := 0) (hi := 9) ((pm_qe_r (tb := pm_qP) (k := 95) (i := (1 : Int).toNat) (m := 4) (r := 1) (l := [(-1, 60, 0), (0, 9, 0), (-1, 60, 0), (0, 9, 0)]) rfl rfl (by omega)).trans rfl) ⟨by omega, by omega⟩)
        have hF91 := ((hF72.up 95 (0 : Int).toNat y59 (by decide) rfl).up 95 (1 : Int).toNat y84 (by decide) rfl)
        obtain ⟨V88, hv89⟩ : ∃ V, V = (pm_up (pm_up V64 95 (0 : Int).toNat y59) 95 (1 : Int).toNat y84) := ⟨_, rfl⟩
        rw [← hv89] at hV90 hF91
        rw [← hv89]
        replace hT := hT.trans (pf_let_eq hv89.symm)
        have e92 : V88 90 1 = y1 := by rw [hv89]; exact e73
        have e93 : V88 90 10 = 95 := by rw [hv89]; exact e74
        have e94 : V88 90 2 = y75 := by rw [hv89]; exact e76
        have e95 : V88 90 3 = y78 := by rw [hv89]; exact e79
        have e96 : V88 90 4 = y81 := by rw [hv89]; exact e82
        have e97 : V88 90 37 = y84 := by rw [hv89]; exact e85
        have hp98 : pm_az V88 := by rw [hv89]; exact (pm_az.fr hg70 rfl rfl)
        refine pm_callV (ci := 12) (as := []) (st := []) hC 90 fP_X12_closes lm_X12_183 li_X12_closes (by decide) (by decide) rfl rfl rfl (by decide) rfl rfl (Nat.le_of_ble_eq_true rfl) ⟨Nat.le_refl _, Or.inl rfl⟩ dX12_spanLine_65 ⟨rfl, hV90, hp98⟩ (fun r99 V100 hp101 => ?_)
        obtain ⟨y102, rfl, b103, hV104, hF105, hg106, hE107⟩ := hp101
        replace hT := hT.trans (pf_call_eq hE107)
        change pm_J X 68 [(2, (0, y59)), (0, (3, 90)), (1, (0, 0))] [(0, y102)] 118 V100
        have hF108 := pm_fs.tr hF91 hF105 (by decide) (by decide)
        have e109 : V100 90 1 = y1 := by rw [hF105.2 1 (by decide)]; exact e92
        have e110 : V100 90 10 = 95 := by rw [hF105.2 10 (by decide)]; exact e93
        have e111 : V100 90 37 = y84 := by rw [hF105.2 37 (by decide)]; exact e97
        obtain ⟨y112, e113⟩ : ∃ y, V100 90 2 = y := ⟨_, rfl⟩
        have b114 := hV104.get 90 2 (lo := 0) (hi := 500) (by decide) (by decide) rfl
        rw [e113] at b114
        replace hT := hT.trans (pf_let_eq e113)
        obtain ⟨y115, e116⟩ : ∃ y, V100 90 3 = y := ⟨_, rfl⟩
        have b117 := hV104.get 90 3 (lo := 0) (hi := 4) (by decide) (by decide) rfl
        rw [e116] at b117
        replace hT := hT.trans (pf_let_eq e116)
        obtain ⟨y118, e119⟩ : ∃ y, V100 90 4 = y := ⟨_, rfl⟩
        have b120 := hV104.get 90 4 (lo := 0) (hi := 500) (by decide) (by decide) rfl
        rw [e119] at b120
        replace hT := hT.trans (pf_let_eq e119)
        exact pm_iret hC hR (pm_narZ (by omega)) ⟨y102, rfl, ⟨by omega, by omega, by omega, by omega⟩, hV104, hF108, hg106, hT⟩ dX12_spanLine_68
      · skip
        replace hT := hT.trans (if_neg (fun q => q c87))
        refine pm_iconst (v := 0) hC dX12_spanLine_43 ?_
        exact pm_iret hC hR (pm_narZ (by omega)) ⟨0, rfl, ⟨by omega, by omega, by omega, by omega⟩, hV68, hF72, hg70, hT⟩ dX12_spanLine_44
    · skip
      replace hT := hT.trans (if_neg (fun q => q c62))
      refine pm_iconst (v := 0) hC dX12_spanLine_26 ?_
      exact pm_iret hC hR (pm_narZ (by omega)) ⟨0, rfl, ⟨by omega, by omega, by omega, by omega⟩, hV43, hF47, hg45, hT⟩ dX12_spanLine_27
  · skip
    replace hT := hT.trans (if_neg c11)
    refine pm_iconst (v := 0) hC dX12_spanLine_10 ?_
    obtain ⟨y121, e122⟩ : ∃ y, V0 90 3 = y := ⟨_, rfl⟩
    have b123 := hV0.get 90 3 (lo := 0) (hi := 4) (by decide) (by decide) rfl
    rw [e122] at b123
    replace hT := hT.trans (pf_let_eq e122)
    obtain ⟨y124, e125⟩ : ∃ y, V0 90 4 = y := ⟨_, rfl⟩
    have b126 := hV0.get 90 4 (lo := 0) (hi := 500) (by decide) (by decide) rfl
    rw [e125] at b126
    replace hT := hT.trans (pf_let_eq e125)
    exact pm_iret hC hR (pm_narZ (by omega)) ⟨0, rfl, ⟨by omega, by omega, by omega, by omega⟩, hV0, (pm_fs.rf (cs := [95]) (fs := [2, 3, 4, 5, 37]) (V := V0)), hn_pm_az, hT⟩ dX12_spanLine_11
set_option maxHeartbeats 4000000 in
set_option maxRecDepth 100000 in
theorem fP_X12_soundLine  : pm_K 8 yX12_soundLine cX12_soundLine 5 (some .boolean) (fun av V => av = [(3, 90)] ∧ pm_oq pm_qP V ∧ pm_az V) (fun _ V r V' => ∃ y, r = some (0, y) ∧ (0 ≤ y ∧ y ≤ 1 ∧ (y = 1 → V' 90 3 ≤ 5 * (V' 90 2 - V 90 2)) ∧ (V 90 2 ≤ V' 90 2)) ∧ pm_oq pm_qP V' ∧ pm_fs [92, 93, 94] [2, 3, 4, 5, 6, 37] V V' ∧ pm_az V' ∧ F_X12_soundLine  V = (y, V')) := by
  refine pm_MT.of (by decide) ⟨Nat.le_refl _, by decide⟩ (fun av V h => by rw [h.1]; exact (by decide : pm_words [(3, 0)] ≤ 5)) ?_
  rintro X av V0 hC - hR ⟨rfl, hV0, hn_pm_az⟩
  change pm_J X 0 [(0, (3, 90))] [] 118 V0
  have hT := F_X12_soundLine_eq  V0
  obtain ⟨y1, e2⟩ : ∃ y, V0 90 1 = y := ⟨_, rfl⟩
  have b3 := hV0.get 90 1 (lo := 0) (hi := 500) (by decide) (by decide) rfl
  rw [e2] at b3
  replace hT := hT.trans (pf_let_eq e2)
  obtain ⟨y4, e5⟩ : ∃ y, V0 90 2 = y := ⟨_, rfl⟩
  have b6 := hV0.get 90 2 (lo := 0) (hi := 500) (by decide) (by decide) rfl
  rw [e5] at b6
  replace hT := hT.trans (pf_let_eq e5)
  have hsz := hn_pm_az
  unfold pm_az at hsz
  rw [e5, e2] at hsz
  refine pm_aload_n hC 0 (by decide) dX12_soundLine_0 rfl ?_
  obtain ⟨y7, e8⟩ : ∃ y, V0 90 6 = y := ⟨_, rfl⟩
  have b9 := hV0.get 90 6 (lo := 0) (hi := 9) (by decide) (by decide) rfl
  rw [e8] at b9
  replace hT := hT.trans (pf_let_eq e8)
  refine pm_getf (v := y7) hC 90 fl_X12_169 rfl rfl (by decide) rfl e8 dX12_soundLine_1 ?_
  refine pm_bipush (v := 9) hC dX12_soundLine_4 (by decide) ?_
  refine pm_icmp_ne (tgt := 11) hC ⟨by omega, by omega⟩ ⟨by decide, by decide⟩ dX12_soundLine_6 (by decide) (fun c10 => ?_) (fun c10 => ?_)
  · skip
    replace hT := hT.trans (if_pos c10)
    refine pm_aload_n hC 0 (by decide) dX12_soundLine_11 rfl ?_
    obtain ⟨y11, e12⟩ : ∃ y, V0 90 3 = y := ⟨_, rfl⟩
    have b13 := hV0.get 90 3 (lo := 0) (hi := 4) (by decide) (by decide) rfl
    rw [e12] at b13
    replace hT := hT.trans (pf_let_eq e12)
    obtain ⟨y14, e15⟩ : ∃ y, V0 90 4 = y := ⟨_, rfl⟩
    have b16 := hV0.get 90 4 (lo := 0) (hi := 500) (by decide) (by decide) rfl
    rw [e15] at b16
    replace hT := hT.trans (pf_let_eq e15)
    refine pm_callV (ci := 12) (as := []) (st := []) hC 90 fP_X12_leads lm_X12_148 li_X12_leads (by decide) (by decide) rfl rfl rfl (by decide) rfl rfl (Nat.le_of_ble_eq_true rfl) ⟨Nat.le_refl _, Or.inl rfl⟩ dX12_soundLine_12 ⟨rfl, hV0, hn_pm_az⟩ (fun r17 V18 hp19 => ?_)
    obtain ⟨rfl, hV20, hF21, hg22, hE23⟩ := hp19
    replace hT := hT.trans (pf_call_eq hE23)
    change pm_J X 15 [(0, (3, 90))] [] 118 V18
    have hF24 := pm_fs.tr (pm_fs.rf (cs := [92, 93, 94]) (fs := [2, 3, 4, 5, 6, 37]) (V := V0)) hF21 (by decide) (by decide)
    have e25 : V18 90 1 = y1 := by rw [hF21.2 1 (by decide)]; exact e2
    have e26 : V18 90 6 = y7 := by rw [hF21.2 6 (by decide)]; exact e8
    obtain ⟨y27, e28⟩ : ∃ y, V18 90 2 = y := ⟨_, rfl⟩
    have b29 := hV20.get 90 2 (lo := 0) (hi := 500) (by decide) (by decide) rfl
    rw [e28] at b29
    replace hT := hT.trans (pf_let_eq e28)
    obtain ⟨y30, e31⟩ : ∃ y, V18 90 3 = y := ⟨_, rfl⟩
    have b32 := hV20.get 90 3 (lo := 0) (hi := 4) (by decide) (by decide) rfl
    rw [e31] at b32
    replace hT := hT.trans (pf_let_eq e31)
    obtain ⟨y33, e34⟩ : ∃ y, V18 90 4 = y := ⟨_, rfl⟩
    have b35 := hV20.get 90 4 (lo := 0) (hi := 500) (by decide) (by decide) rfl
    rw [e34] at b35
    replace hT := hT.trans (pf_let_eq e34)
    have hpr36 := r_leads_pr hV0 hn_pm_az hE23
    refine pm_aload_n hC 0 (by decide) dX12_soundLine_15 rfl ?_
    refine pm_callV (ci := 12) (as := []) (st := []) hC 90 fP_X12_isName lm_X12_172 li_X12_isName (by decide) (by decide) rfl rfl rfl (by decide) rfl rfl (Nat.le_of_ble_eq_true rfl) ⟨Nat.le_refl _, Or.inl rfl⟩ dX12_soundLine_16 ⟨rfl, hV20⟩ (fun r37 V38 hp39 => ?_)
    obtain ⟨y40, rfl, b41, rfl, hE42⟩ := hp39
    replace hT := hT.trans (pf_call_eq hE42)
    change pm_J X 19 [(0, (3, 90))] [(0, y40)] 118 V18
    refine pm_if_eq (tgt := 30) hC ⟨by omega, by omega⟩ dX12_soundLine_19 (by decide) (fun c43 => ?_) (fun c43 => ?_)
    · skip
      replace hT := hT.trans (if_pos c43)
      refine pm_iconst (v := 0) hC dX12_soundLine_30 ?_
      exact pm_iret hC hR (pm_narZ (by omega)) ⟨0, rfl, ⟨by omega, by omega, by omega, by omega⟩, hV20, hF24, hg22, hT⟩ dX12_soundLine_31
    · skip
      replace hT := hT.trans (if_neg c43)
      refine pm_aload_n hC 0 (by decide) dX12_soundLine_22 rfl ?_
      refine pm_callV (ci := 12) (as := []) (st := []) hC 90 fP_X12_named lm_X12_176 li_X12_named (by decide) (by decide) rfl rfl rfl (by decide) rfl rfl (Nat.le_of_ble_eq_true rfl) ⟨Nat.le_refl _, Or.inl rfl⟩ dX12_soundLine_23 ⟨rfl, hV20⟩ (fun r44 V45 hp46 => ?_)
      obtain ⟨y47, rfl, b48, rfl, hE49⟩ := hp46
      replace hT := hT.trans (pf_call_eq hE49)
      change pm_J X 26 [(0, (3, 90))] [(0, y47)] 118 V18
      refine pm_iconst (v := (-1)) hC dX12_soundLine_26 ?_
      refine pm_icmp_eq (tgt := 32) hC ⟨by omega, by omega⟩ ⟨by decide, by decide⟩ dX12_soundLine_27 (by decide) (fun c50 => ?_) (fun c50 => ?_)
      · skip
        replace hT := hT.trans (if_pos c50)
        refine pm_aload_n hC 0 (by decide) dX12_soundLine_32 rfl ?_
        obtain ⟨y51, e52⟩ : ∃ y, V18 90 5 = y := ⟨_, rfl⟩
        have b53 := hV20.get 90 5 (lo := (-9223372036854775808)) (hi := 9223372036854775807) (by decide) (by decide) rfl
        rw [e52] at b53
        replace hT := hT.trans (pf_let_eq e52)
        refine pm_getf (v := y51) hC 90 fl_X12_108 rfl rfl (by decide) rfl e52 dX12_soundLine_33 ?_
        refine pm_lstore_n (lv' := [(1, (1, y51)), (0, (3, 90))]) hC dX12_soundLine_36 (by decide) rfl ?_
        refine pm_aload_n hC 1 (by decide) dX12_soundLine_37 rfl ?_
        refine pm_callV (ci := 12) (as := []) (st := []) hC 90 fP_X12_leads lm_X12_148 li_X12_leads (by decide) (by decide) rfl rfl rfl (by decide) rfl rfl (Nat.le_of_ble_eq_true rfl) ⟨Nat.le_refl _, Or.inl rfl⟩ dX12_soundLine_38 ⟨rfl, hV20, hg22⟩ (fun r54 V55 hp56 => ?_)
        obtain ⟨rfl, hV57, hF58, hg59, hE60⟩ := hp56
        replace hT := hT.trans (pf_call_eq hE60)
        change pm_J X 41 [(1, (1, y51)), (0, (3, 90))] [] 118 V55
        have hF61 := pm_fs.tr hF24 hF58 (by decide) (by decide)
        have e62 : V55 90 1 = y1 := by rw [hF58.2 1 (by decide)]; exact e25
        have e63 : V55 90 6 = y7 := by rw [hF58.2 6 (by decide)]; exact e26
        obtain ⟨y64, e65⟩ : ∃ y, V55 90 2 = y := ⟨_, rfl⟩
        have b66 := hV57.get 90 2 (lo := 0) (hi := 500) (by decide) (by decide) rfl
        rw [e65] at b66
        replace hT := hT.trans (pf_let_eq e65)
        obtain ⟨y67, e68⟩ : ∃ y, V55 90 3 = y := ⟨_, rfl⟩
        have b69 := hV57.get 90 3 (lo := 0) (hi := 4) (by decide) (by decide) rfl
        rw [e68] at b69
        replace hT := hT.trans (pf_let_eq e68)
        obtain ⟨y70, e71⟩ : ∃ y, V55 90 4 = y := ⟨_, rfl⟩
        have b72 := hV57.get 90 4 (lo := 0) (hi := 500) (by decide) (by decide) rfl
        rw [e71] at b72
        replace hT := hT.trans (pf_let_eq e71)
        have hpr73 := r_leads_pr hV20 hg22 hE60
        refine pm_aload_n hC 1 (by decide) dX12_soundLine_41 rfl ?_
        refine pm_iconst (v := 0) hC dX12_soundLine_42 ?_
        refine pm_bipush (v := 99) hC dX12_soundLine_43 (by decide) ?_
        refine pm_callV (ci := 12) (as := [(0, 0), (0, 99)]) (st := []) hC 90 (fP_X12_number 0 99 ⟨by decide, by decide⟩ ⟨by decide, by decide⟩) lm_X12_179 li_X12_number (by decide) (by decide) rfl rfl rfl (by decide) rfl rfl (Nat.le_of_ble_eq_true rfl) ⟨Nat.le_refl _, Or.inl rfl⟩ dX12_soundLine_45 ⟨rfl, hV57, hg59⟩ (fun r74 V75 hp76 => ?_)
        obtain ⟨y77, rfl, b78, hV79, hF80, hg81, hE82⟩ := hp76
        replace hT := hT.trans (pf_call_eq hE82)
        change pm_J X 48 [(1, (1, y51)), (0, (3, 90))] [(0, y77)] 118 V75
        have hF83 := pm_fs.tr hF61 hF80 (by decide) (by decide)
        have e84 : V75 90 1 = y1 := by rw [hF80.2 1 (by decide)]; exact e62
        have e85 : V75 90 6 = y7 := by rw [hF80.2 6 (by decide)]; exact e63
        obtain ⟨y86, e87⟩ : ∃ y, V75 90 2 = y := ⟨_, rfl⟩
        have b88 := hV79.get 90 2 (lo := 0) (hi := 500) (by decide) (by decide) rfl
        rw [e87] at b88
        replace hT := hT.trans (pf_let_eq e87)
        obtain ⟨y89, e90⟩ : ∃ y, V75 90 3 = y := ⟨_, rfl⟩
        have b91 := hV79.get 90 3 (lo := 0) (hi := 4) (by decide) (by decide) rfl
        rw [e90] at b91
        replace hT := hT.trans (pf_let_eq e90)
        obtain ⟨y92, e93⟩ : ∃ y, V75 90 4 = y := ⟨_, rfl⟩
        have b94 := hV79.get 90 4 (lo := 0) (hi := 500) (by decide) (by decide) rfl
        rw [e93] at b94
        replace hT := hT.trans (pf_let_eq e93)
        obtain ⟨y95, e96⟩ : ∃ y, V75 90 37 = y := ⟨_, rfl⟩
        have b97 := hV79.get 90 37 (lo := (-2147483648)) (hi := 2147483647) (by decide) (by decide) rfl
        rw [e96] at b97
        replace hT := hT.trans (pf_let_eq e96)
        refine pm_if_ne (tgt := 53) hC ⟨by omega, by omega⟩ dX12_soundLine_48 (by decide) (fun c98 => ?_) (fun c98 => ?_)
        · skip
          replace hT := hT.trans (if_pos c98)
          refine pm_aload_n hC 1 (by decide) dX12_soundLine_53 rfl ?_
          refine pm_getf (v := y95) hC 90 fl_X12_151 rfl rfl (by decide) rfl e96 dX12_soundLine_54 ?_
          refine pm_istore_n (lv' := [(3, (0, y95)), (1, (1, y51)), (0, (3, 90))]) hC dX12_soundLine_57 (by decide) rfl ?_
          refine pm_iconst (v := 0) hC dX12_soundLine_58 ?_
          refine pm_istore (lv' := [(4, (0, 0)), (3, (0, y95)), (1, (1, y51)), (0, (3, 90))]) hC dX12_soundLine_59 (by decide) rfl ?_
          obtain ⟨B101, hB102, hT⟩ := pf_loop hT
          have L104 : ∀ (N106 : Nat) (x99 : Int), (0 ≤ x99 ∧ x99 ≤ 9) → F_X12_soundLine  V0 = pf_val ((0 : Int), V0) B101 x99 → (Int.toNat (9 - x99)) = N106 → pm_J X 61 [(0, (3, 90)), (1, (1, y51)), (3, (0, y95)), (4, (0, x99))] [] 118 V75 := by
            intro N106
            induction N106 using Nat.strongRecOn with
            | _ N106 ih107 =>
            intro x99 b100 hT hm105
            have hb103 := congrFun hB102 x99
            refine pm_iload hC 3 dX12_soundLine_61 rfl ?_
            refine pm_aload_n hC 0 (by decide) dX12_soundLine_63 rfl ?_
            refine pm_getf (v := y7) hC 90 fl_X12_169 rfl rfl (by decide) rfl e85 dX12_soundLine_64 ?_
            refine pm_icmp_ge (tgt := 119) hC ⟨by omega, by omega⟩ ⟨by omega, by omega⟩ dX12_soundLine_67 (by decide) (fun c108 => ?_) (fun c108 => ?_)
            · skip
              replace hb103 := hb103.trans (if_pos c108)
              refine pm_aload_n hC 0 (by decide) dX12_soundLine_119 rfl ?_
              refine pm_iconst (v := 0) hC dX12_soundLine_120 ?_
              refine pm_bipush (v := 99) hC dX12_soundLine_121 (by decide) ?_
              refine pm_callV (ci := 12) (as := [(0, 0), (0, 99)]) (st := []) hC 90 (fP_X12_number 0 99 ⟨by decide, by decide⟩ ⟨by decide, by decide⟩) lm_X12_179 li_X12_number (by decide) (by decide) rfl rfl rfl (by decide) rfl rfl (Nat.le_of_ble_eq_true rfl) ⟨Nat.le_refl _, Or.inl rfl⟩ dX12_soundLine_123 ⟨rfl, hV79, hg81⟩ (fun r109 V110 hp111 => ?_)
              obtain ⟨y112, rfl, b113, hV114, hF115, hg116, hE117⟩ := hp111
              replace hb103 := hb103.trans (pf_call_eq hE117)
              change pm_J X 126 [(0, (3, 90)), (1, (1, y51)), (3, (0, y95)), (4, (0, x99))] [(0, y112)] 118 V110
              have hF118 := pm_fs.tr hF83 hF115 (by decide) (by decide)
              have e119 : V110 90 1 = y1 := by rw [hF115.2 1 (by decide)]; exact e84
              have e120 : V110 90 6 = y7 := by rw [hF115.2 6 (by decide)]; exact e85
              obtain ⟨y121, e122⟩ : ∃ y, V110 90 2 = y := ⟨_, rfl⟩
              have b123 := hV114.get 90 2 (lo := 0) (hi := 500) (by decide) (by decide) rfl
              rw [e122] at b123
              replace hb103 := hb103.trans (pf_let_eq e122)
              obtain ⟨y124, e125⟩ : ∃ y, V110 90 3 = y := ⟨_, rfl⟩
              have b126 := hV114.get 90 3 (lo := 0) (hi := 4) (by decide) (by decide) rfl
              rw [e125] at b126
              replace hb103 := hb103.trans (pf_let_eq e125)
              obtain ⟨y127, e128⟩ : ∃ y, V110 90 4 = y := ⟨_, rfl⟩
              have b129 := hV114.get 90 4 (lo := 0) (hi := 500) (by decide) (by decide) rfl
              rw [e128] at b129
              replace hb103 := hb103.trans (pf_let_eq e128)
              obtain ⟨y130, e131⟩ : ∃ y, V110 90 37 = y := ⟨_, rfl⟩
              have b132 := hV114.get 90 37 (lo := (-2147483648)) (hi := 2147483647) (by decide) (by decide) rfl
              rw [e131] at b132
              replace hb103 := hb103.trans (pf_let_eq e131)
              refine pm_if_ne (tgt := 131) hC ⟨by omega, by omega⟩ dX12_soundLine_126 (by decide) (fun c133 => ?_) (fun c133 => ?_)
              · skip
                replace hb103 := hb103.trans (if_pos c133)
                refine pm_aload_n hC 0 (by decide) dX12_soundLine_131 rfl ?_
                have e134 : V110 90 7 = 92 := hV114.one 90 7 (by decide) (by decide) rfl
                refine pm_getf (v := 92) hC 90 fl_X12_13 rfl rfl (by decide) rfl e134 dX12_soundLine_132 ?_
                refine pm_aload_n hC 0 (by decide) dX12_soundLine_135 rfl ?_
                refine pm_getf (v := y7) hC 90 fl_X12_169 rfl rfl (by decide) rfl e120 dX12_soundLine_136 ?_
                refine pm_lload_n hC 1 dX12_soundLine_139 rfl ?_
                refine pm_lastore (len := 9) hC 92 rfl rfl (by decide) ⟨by omega, by omega⟩ (by decide) dX12_soundLine_140 ?_
                refine pm_aload_n hC 0 (by decide) dX12_soundLine_141 rfl ?_
                have e135 : V110 90 8 = 93 := hV114.one 90 8 (by decide) (by decide) rfl
                refine pm_getf (v := 93) hC 90 fl_X12_17 rfl rfl (by decide) rfl e135 dX12_soundLine_142 ?_
                refine pm_iconst (v := 3) hC dX12_soundLine_145 ?_
                refine pm_aload_n hC 0 (by decide) dX12_soundLine_146 rfl ?_
                refine pm_getf (v := y7) hC 90 fl_X12_169 rfl rfl (by decide) rfl e120 dX12_soundLine_147 ?_
                refine pm_imul hC dX12_soundLine_150 ?_
                refine pm_iload_n hC 2 dX12_soundLine_151 rfl ?_
                refine pm_iastore (len := 27) hC 93 rfl rfl (by decide) ⟨by omega, by omega⟩ (by decide) dX12_soundLine_152 ?_
                refine pm_aload_n hC 0 (by decide) dX12_soundLine_153 rfl ?_
                refine pm_getf (v := 93) hC 90 fl_X12_17 rfl rfl (by decide) rfl e135 dX12_soundLine_154 ?_
                refine pm_iconst (v := 3) hC dX12_soundLine_157 ?_
                refine pm_aload_n hC 0 (by decide) dX12_soundLine_158 rfl ?_
                refine pm_getf (v := y7) hC 90 fl_X12_169 rfl rfl (by decide) rfl e120 dX12_soundLine_159 ?_
                refine pm_imul hC dX12_soundLine_162 ?_
                refine pm_iconst (v := 1) hC dX12_soundLine_163 ?_
                refine pm_iadd hC dX12_soundLine_164 ?_
                refine pm_aload_n hC 0 (by decide) dX12_soundLine_165 rfl ?_
                refine pm_getf (v := y130) hC 90 fl_X12_151 rfl rfl (by decide) rfl e131 dX12_soundLine_166 ?_
                refine pm_iastore (len := 27) hC 93 rfl rfl (by decide) ⟨by omega, by omega⟩ (by decide) dX12_soundLine_169 ?_
                refine pm_aload_n hC 0 (by decide) dX12_soundLine_170 rfl ?_
                refine pm_getf (v := 93) hC 90 fl_X12_17 rfl rfl (by decide) rfl e135 dX12_soundLine_171 ?_
                refine pm_iconst (v := 3) hC dX12_soundLine_174 ?_
                refine pm_aload_n hC 0 (by decide) dX12_soundLine_175 rfl ?_
                refine pm_getf (v := y7) hC 90 fl_X12_169 rfl rfl (by decide) rfl e120 dX12_soundLine_176 ?_
                refine pm_imul hC dX12_soundLine_179 ?_
                refine pm_iconst (v := 2) hC dX12_soundLine_180 ?_
                refine pm_iadd hC dX12_soundLine_181 ?_
                refine pm_iconst (v := 1) hC dX12_soundLine_182 ?_
                refine pm_iastore (len := 27) hC 93 rfl rfl (by decide) ⟨by omega, by omega⟩ (by decide) dX12_soundLine_183 ?_
                refine pm_aload_n hC 0 (by decide) dX12_soundLine_184 rfl ?_
                have e136 : V110 90 9 = 94 := hV114.one 90 9 (by decide) (by decide) rfl
                refine pm_getf (v := 94) hC 90 fl_X12_21 rfl rfl (by decide) rfl e136 dX12_soundLine_185 ?_
                refine pm_aload_n hC 0 (by decide) dX12_soundLine_188 rfl ?_
                refine pm_getf (v := y7) hC 90 fl_X12_169 rfl rfl (by decide) rfl e120 dX12_soundLine_189 ?_
                refine pm_iconst (v := 0) hC dX12_soundLine_192 ?_
                refine pm_zastore (len := 9) hC 94 rfl rfl (by decide) ⟨by omega, by omega⟩ (by decide) (by omega) dX12_soundLine_193 ?_
                refine pm_aload_n hC 0 (by decide) dX12_soundLine_194 rfl ?_
                refine pm_dup hC rfl dX12_soundLine_195 ?_
                refine pm_getf (v := y7) hC 90 fl_X12_169 rfl rfl (by decide) rfl e120 dX12_soundLine_196 ?_
                refine pm_iconst (v := 1) hC dX12_soundLine_199 ?_
                refine pm_iadd hC dX12_soundLine_200 ?_
                refine pm_putf hC 90 fl_X12_169 rfl rfl rfl (by decide) rfl trivial dX12_soundLine_201 ?_
                refine pm_aload_n hC 0 (by decide) dX12_soundLine_204 rfl ?_
                have hV139 := ((((((hV114.put 92 (y7 : Int).toNat (x := y51) (lo := (-9223372036854775808)) (hi := 9223372036854775807) rfl ⟨by omega, by omega⟩).put 93 ((3 * y7) : Int).toNat (x := y95) (lo := 0) (hi := 99) ((pm_qe_r (tb := pm_qP) (k := 93) (i := ((3 * y7) : Int).toNat) (m := 3) (r := 0) (l := [(0, 99, 0), (0, 99, 0), (0, 9, 0)]) rfl rfl (by omega)).trans rfl) ⟨by omega, by omega⟩).put 93 (((3 * y7) + 1) : Int).toNat (x := y130) (lo := 0) (hi := 99) ((pm_qe_r (tb := pm_qP) (k := 93) (i := (((3 * y7) + 1) : Int).toNat) (m := 3) (r := 1) (l := [(0, 99, 0), (0, 99, 0), (0, 9, 0)]) rfl rfl (by omega)).trans rfl) ⟨by omega, by omega⟩).put 93 (((3 * y7) + 2) : Int).toNat (x := 1) (lo := 0) (hi := 9) ((pm_qe_r (tb := pm_qP) (k := 93) (i := (((3 * y7) + 2) : Int).toNat) (m := 3) (r := 2) (l := [(0, 99, 0), (0, 99, 0), (0, 9, 0)]) rfl rfl (by omega)).trans rfl) ⟨by decide, by decide⟩).put 94 (y7 : Int).toNat (x := 0) (lo := 0) (hi := 1) rfl ⟨by decide, by decide⟩).put 90 6 (x := (y7 + 1)) (lo := 0) (hi := 9) rfl ⟨by omega, by omega⟩)
                have hF140 := ((((((hF118.up 92 (y7 : Int).toNat y51 (by decide) rfl).up 93 ((3 * y7) : Int).toNat y95 (by decide) rfl).up 93 (((3 * y7) + 1) : Int).toNat y130 (by decide) rfl).up 93 (((3 * y7) + 2) : Int).toNat 1 (by decide) rfl).up 94 (y7 : Int).toNat 0 (by decide) rfl).upf 6 (y7 + 1) rfl)
                obtain ⟨V137, hv138⟩ : ∃ V, V = (pm_up (pm_up (pm_up (pm_up (pm_up (pm_up V110 92 (y7 : Int).toNat y51) 93 ((3 * y7) : Int).toNat y95) 93 (((3 * y7) + 1) : Int).toNat y130) 93 (((3 * y7) + 2) : Int).toNat 1) 94 (y7 : Int).toNat 0) 90 6 (y7 + 1)) := ⟨_, rfl⟩
                rw [← hv138] at hV139 hF140
                rw [← hv138]
                replace hb103 := hb103.trans (pf_let_eq hv138.symm)
                have e141 : V137 90 1 = y1 := by rw [hv138]; exact e119
                have e142 : V137 90 2 = y121 := by rw [hv138]; exact e122
                have e143 : V137 90 3 = y124 := by rw [hv138]; exact e125
                have e144 : V137 90 4 = y127 := by rw [hv138]; exact e128
                have e145 : V137 90 37 = y130 := by rw [hv138]; exact e131
                have e146 : V137 90 7 = 92 := by rw [hv138]; exact e134
                have e147 : V137 90 8 = 93 := by rw [hv138]; exact e135
                have e148 : V137 90 9 = 94 := by rw [hv138]; exact e136
                have e149 : V137 90 6 = (y7 + 1) := by rw [hv138]; rfl
                have hp150 : pm_az V137 := by rw [hv138]; exact (pm_az.fr hg116 rfl rfl)
                refine pm_callV (ci := 12) (as := []) (st := []) hC 90 fP_X12_closes lm_X12_183 li_X12_closes (by decide) (by decide) rfl rfl rfl (by decide) rfl rfl (Nat.le_of_ble_eq_true rfl) ⟨Nat.le_refl _, Or.inl rfl⟩ dX12_soundLine_205 ⟨rfl, hV139, hp150⟩ (fun r151 V152 hp153 => ?_)
                obtain ⟨y154, rfl, b155, hV156, hF157, hg158, hE159⟩ := hp153
                replace hb103 := hb103.trans (pf_call_eq hE159)
                change pm_J X 208 [(0, (3, 90)), (1, (1, y51)), (3, (0, y95)), (4, (0, x99))] [(0, y154)] 118 V152
                have hF160 := pm_fs.tr hF140 hF157 (by decide) (by decide)
                have e161 : V152 90 1 = y1 := by rw [hF157.2 1 (by decide)]; exact e141
                have e162 : V152 90 37 = y130 := by rw [hF157.2 37 (by decide)]; exact e145
                have e163 : V152 90 7 = 92 := by rw [hF157.2 7 (by decide)]; exact e146
                have e164 : V152 90 8 = 93 := by rw [hF157.2 8 (by decide)]; exact e147
                have e165 : V152 90 9 = 94 := by rw [hF157.2 9 (by decide)]; exact e148
                have e166 : V152 90 6 = (y7 + 1) := by rw [hF157.2 6 (by decide)]; exact e149
                obtain ⟨y167, e168⟩ : ∃ y, V152 90 2 = y := ⟨_, rfl⟩
                have b169 := hV156.get 90 2 (lo := 0) (hi := 500) (by decide) (by decide) rfl
                rw [e168] at b169
                replace hb103 := hb103.trans (pf_let_eq e168)
                obtain ⟨y170, e171⟩ : ∃ y, V152 90 3 = y := ⟨_, rfl⟩
                have b172 := hV156.get 90 3 (lo := 0) (hi := 4) (by decide) (by decide) rfl
                rw [e171] at b172
                replace hb103 := hb103.trans (pf_let_eq e171)
                obtain ⟨y173, e174⟩ : ∃ y, V152 90 4 = y := ⟨_, rfl⟩
                have b175 := hV156.get 90 4 (lo := 0) (hi := 500) (by decide) (by decide) rfl
                rw [e174] at b175
                replace hb103 := hb103.trans (pf_let_eq e174)
                have hT := hT.trans (pf_val_inr hb103)
                exact pm_iret hC hR (pm_narZ (by omega)) ⟨y154, rfl, ⟨by omega, by omega, by omega, by omega⟩, hV156, hF160, hg158, hT⟩ dX12_soundLine_208
              · skip
                replace hb103 := hb103.trans (if_neg (fun q => q c133))
                refine pm_iconst (v := 0) hC dX12_soundLine_129 ?_
                have hT := hT.trans (pf_val_inr hb103)
                exact pm_iret hC hR (pm_narZ (by omega)) ⟨0, rfl, ⟨by omega, by omega, by omega, by omega⟩, hV114, hF118, hg116, hT⟩ dX12_soundLine_130
            · skip
              replace hb103 := hb103.trans (if_neg (Int.not_le.mpr c108))
              refine pm_aload_n hC 0 (by decide) dX12_soundLine_70 rfl ?_
              refine pm_getf (v := y89) hC 90 fl_X12_112 rfl rfl (by decide) rfl e90 dX12_soundLine_71 ?_
              refine pm_iconst (v := 2) hC dX12_soundLine_74 ?_
              refine pm_icmp_ne (tgt := 113) hC ⟨by omega, by omega⟩ ⟨by decide, by decide⟩ dX12_soundLine_75 (by decide) (fun c176 => ?_) (fun c176 => ?_)
              · skip
                replace hb103 := hb103.trans (if_pos c176)
                obtain ⟨x177, ei178⟩ : ∃ y : Int, x99 + 1 = y := ⟨_, rfl⟩
                replace hb103 := hb103.trans (pf_let_eq ei178)
                refine pm_iinc (y := x177) (lv' := [(4, (0, x177)), (0, (3, 90)), (1, (1, y51)), (3, (0, y95))]) hC 3 dX12_soundLine_113 (by decide) rfl ei178 rfl ?_
                refine pm_goto (tgt := 61) hC dX12_soundLine_116 (by decide) ?_
                refine pm_lvsub [1, 2, 3, 0] (lv' := [(0, (3, 90)), (1, (1, y51)), (3, (0, y95)), (4, (0, x177))]) rfl ?_
                exact ih107 _ (by omega) x177 ⟨by omega, by omega⟩ (hT.trans (pf_val_inl hb103)) rfl
              · skip
                replace hb103 := hb103.trans (if_neg (fun q => q c176))
                refine pm_aload_n hC 0 (by decide) dX12_soundLine_78 rfl ?_
                have e179 : V75 90 8 = 93 := hV79.one 90 8 (by decide) (by decide) rfl
                refine pm_getf (v := 93) hC 90 fl_X12_17 rfl rfl (by decide) rfl e179 dX12_soundLine_79 ?_
                refine pm_iconst (v := 3) hC dX12_soundLine_82 ?_
                refine pm_iload hC 3 dX12_soundLine_83 rfl ?_
                refine pm_imul hC dX12_soundLine_85 ?_
                obtain ⟨y180, e181⟩ : ∃ y, V75 93 ((3 * x99) : Int).toNat = y := ⟨_, rfl⟩
                replace hb103 := hb103.trans (pf_let_eq e181)
                have b182 := hV79.get 93 ((3 * x99) : Int).toNat (lo := 0) (hi := 99) (t := 0) (by decide) (show _ < 27 by omega) ((pm_qe_r (tb := pm_qP) (k := 93) (i := ((3 * x99) : Int).toNat) (m := 3) (r := 0) (l := [(0, 99, 0), (0, 99, 0), (0, 9, 0)]) rfl rfl (by omega)).trans rfl)
                rw [e181] at b182
                refine pm_iaload (len := 27) (v := y180) hC 93 rfl rfl (by decide) ⟨by omega, by omega⟩ (by decide) e181 dX12_soundLine_86 ?_
                refine pm_iload_n hC 2 dX12_soundLine_87 rfl ?_
                refine pm_icmp_ne (tgt := 113) hC ⟨by omega, by omega⟩ ⟨by omega, by omega⟩ dX12_soundLine_88 (by decide) (fun c183 => ?_) (fun c183 => ?_)
                · skip
                  replace hb103 := hb103.trans (if_pos c183)
                  obtain ⟨x184, ei185⟩ : ∃ y : Int, x99 + 1 = y := ⟨_, rfl⟩
                  replace hb103 := hb103.trans (pf_let_eq ei185)
                  refine pm_iinc (y := x184) (lv' := [(4, (0, x184)), (0, (3, 90)), (1, (1, y51)), (3, (0, y95))]) hC 3 dX12_soundLine_113 (by decide) rfl ei185 rfl ?_
                  refine pm_goto (tgt := 61) hC dX12_soundLine_116 (by decide) ?_
                  refine pm_lvsub [1, 2, 3, 0] (lv' := [(0, (3, 90)), (1, (1, y51)), (3, (0, y95)), (4, (0, x184))]) rfl ?_
                  exact ih107 _ (by omega) x184 ⟨by omega, by omega⟩ (hT.trans (pf_val_inl hb103)) rfl
                · skip
                  replace hb103 := hb103.trans (if_neg (fun q => q c183))
                  refine pm_aload_n hC 0 (by decide) dX12_soundLine_91 rfl ?_
                  refine pm_getf (v := 93) hC 90 fl_X12_17 rfl rfl (by decide) rfl e179 dX12_soundLine_92 ?_
                  refine pm_iconst (v := 3) hC dX12_soundLine_95 ?_
                  refine pm_iload hC 3 dX12_soundLine_96 rfl ?_
                  refine pm_imul hC dX12_soundLine_98 ?_
                  refine pm_iconst (v := 1) hC dX12_soundLine_99 ?_
                  refine pm_iadd hC dX12_soundLine_100 ?_
                  obtain ⟨y186, e187⟩ : ∃ y, V75 93 (((3 * x99) + 1) : Int).toNat = y := ⟨_, rfl⟩
                  replace hb103 := hb103.trans (pf_let_eq e187)
                  have b188 := hV79.get 93 (((3 * x99) + 1) : Int).toNat (lo := 0) (hi := 99) (t := 0) (by decide) (show _ < 27 by omega) ((pm_qe_r (tb := pm_qP) (k := 93) (i := (((3 * x99) + 1) : Int).toNat) (m := 3) (r := 1) (l := [(0, 99, 0), (0, 99, 0), (0, 9, 0)]) rfl rfl (by omega)).trans rfl)
                  rw [e187] at b188
                  refine pm_iaload (len := 27) (v := y186) hC 93 rfl rfl (by decide) ⟨by omega, by omega⟩ (by decide) e187 dX12_soundLine_101 ?_
                  refine pm_i2l hC ⟨by omega, by omega⟩ dX12_soundLine_102 ?_
                  refine pm_aload_n hC 0 (by decide) dX12_soundLine_103 rfl ?_
                  obtain ⟨y189, e190⟩ : ∃ y, V75 90 5 = y := ⟨_, rfl⟩
                  have b191 := hV79.get 90 5 (lo := (-9223372036854775808)) (hi := 9223372036854775807) (by decide) (by decide) rfl
                  rw [e190] at b191
                  replace hb103 := hb103.trans (pf_let_eq e190)
                  refine pm_getf (v := y189) hC 90 fl_X12_108 rfl rfl (by decide) rfl e190 dX12_soundLine_104 ?_
                  refine pm_lcmp hC ⟨by omega, by omega⟩ ⟨by omega, by omega⟩ dX12_soundLine_107 (fun y192 b193 => ?_)
                  replace hb103 := hb103.trans (pf_let_eq (pm_cmp_u b193))
                  refine pm_if_ne (tgt := 113) hC ⟨by omega, by omega⟩ dX12_soundLine_108 (by decide) (fun c194 => ?_) (fun c194 => ?_)
                  · skip
                    replace hb103 := hb103.trans (if_pos c194)
                    obtain ⟨x195, ei196⟩ : ∃ y : Int, x99 + 1 = y := ⟨_, rfl⟩
                    replace hb103 := hb103.trans (pf_let_eq ei196)
                    refine pm_iinc (y := x195) (lv' := [(4, (0, x195)), (0, (3, 90)), (1, (1, y51)), (3, (0, y95))]) hC 3 dX12_soundLine_113 (by decide) rfl ei196 rfl ?_
                    refine pm_goto (tgt := 61) hC dX12_soundLine_116 (by decide) ?_
                    refine pm_lvsub [1, 2, 3, 0] (lv' := [(0, (3, 90)), (1, (1, y51)), (3, (0, y95)), (4, (0, x195))]) rfl ?_
                    exact ih107 _ (by omega) x195 ⟨by omega, by omega⟩ (hT.trans (pf_val_inl hb103)) rfl
                  · skip
                    replace hb103 := hb103.trans (if_neg (fun q => q c194))
                    refine pm_iconst (v := 0) hC dX12_soundLine_111 ?_
                    have hT := hT.trans (pf_val_inr hb103)
                    exact pm_iret hC hR (pm_narZ (by omega)) ⟨0, rfl, ⟨by omega, by omega, by omega, by omega⟩, hV79, hF83, hg81, hT⟩ dX12_soundLine_112
          refine pm_lvsub [3, 2, 1, 0] (lv' := [(0, (3, 90)), (1, (1, y51)), (3, (0, y95)), (4, (0, 0))]) rfl ?_
          exact L104 _ 0 ⟨by decide, by decide⟩ hT rfl
        · skip
          replace hT := hT.trans (if_neg (fun q => q c98))
          refine pm_iconst (v := 0) hC dX12_soundLine_51 ?_
          exact pm_iret hC hR (pm_narZ (by omega)) ⟨0, rfl, ⟨by omega, by omega, by omega, by omega⟩, hV79, hF83, hg81, hT⟩ dX12_soundLine_52
      · skip
        replace hT := hT.trans (if_neg c50)
        refine pm_iconst (v := 0) hC dX12_soundLine_30 ?_
        exact pm_iret hC hR (pm_narZ (by omega)) ⟨0, rfl, ⟨by omega, by omega, by omega, by omega⟩, hV20, hF24, hg22, hT⟩ dX12_soundLine_31
  · skip
    replace hT := hT.trans (if_neg (fun q => q c10))
    refine pm_iconst (v := 0) hC dX12_soundLine_9 ?_
    obtain ⟨y197, e198⟩ : ∃ y, V0 90 3 = y := ⟨_, rfl⟩
    have b199 := hV0.get 90 3 (lo := 0) (hi := 4) (by decide) (by decide) rfl
    rw [e198] at b199
    replace hT := hT.trans (pf_let_eq e198)
    obtain ⟨y200, e201⟩ : ∃ y, V0 90 4 = y := ⟨_, rfl⟩
    have b202 := hV0.get 90 4 (lo := 0) (hi := 500) (by decide) (by decide) rfl
    rw [e201] at b202
    replace hT := hT.trans (pf_let_eq e201)
    exact pm_iret hC hR (pm_narZ (by omega)) ⟨0, rfl, ⟨by omega, by omega, by omega, by omega⟩, hV0, (pm_fs.rf (cs := [92, 93, 94]) (fs := [2, 3, 4, 5, 6, 37]) (V := V0)), hn_pm_az, hT⟩ dX12_soundLine_10
set_option maxHeartbeats 4000000 in
set_option maxRecDepth 100000 in
theorem fP_X12_sceneLine  : pm_K 9 yX12_sceneLine cX12_sceneLine 1 (some .boolean) (fun av V => av = [(3, 90)] ∧ pm_oq pm_qP V ∧ pm_az V) (fun _ V r V' => ∃ y, r = some (0, y) ∧ (0 ≤ y ∧ y ≤ 1 ∧ (y = 1 → V' 90 3 ≤ 5 * (V' 90 2 - V 90 2)) ∧ (V 90 2 ≤ V' 90 2)) ∧ pm_oq pm_qP V' ∧ pm_fs [92, 93, 94, 95, 96] [2, 3, 4, 5, 6, 11, 12, 13, 37] V V' ∧ pm_az V' ∧ F_X12_sceneLine  V = (y, V')) := by
  refine pm_MT.of (by decide) ⟨Nat.le_refl _, by decide⟩ (fun av V h => by rw [h.1]; exact (by decide : pm_words [(3, 0)] ≤ 1)) ?_
  rintro X av V0 hC - hR ⟨rfl, hV0, hn_pm_az⟩
  change pm_J X 0 [(0, (3, 90))] [] 118 V0
  have hT := F_X12_sceneLine_eq  V0
  obtain ⟨y1, e2⟩ : ∃ y, V0 90 1 = y := ⟨_, rfl⟩
  have b3 := hV0.get 90 1 (lo := 0) (hi := 500) (by decide) (by decide) rfl
  rw [e2] at b3
  replace hT := hT.trans (pf_let_eq e2)
  obtain ⟨y4, e5⟩ : ∃ y, V0 90 2 = y := ⟨_, rfl⟩
  have b6 := hV0.get 90 2 (lo := 0) (hi := 500) (by decide) (by decide) rfl
  rw [e5] at b6
  replace hT := hT.trans (pf_let_eq e5)
  have hsz := hn_pm_az
  unfold pm_az at hsz
  rw [e5, e2] at hsz
  refine pm_aload_n hC 0 (by decide) dX12_sceneLine_0 rfl ?_
  refine pm_ldcS (tx := "sound") (q := 0) hC (by decide) dX12_sceneLine_1 ?_
  change pm_J X 3 [(0, (3, 90))] [(4, 0), (3, 90)] 118 V0
  refine pm_callV (ci := 12) (as := [(4, 0)]) (st := []) hC 90 (fP_X12_isWord 0 ⟨by decide, by decide⟩) lm_X12_156 li_X12_isWord (by decide) (by decide) rfl rfl rfl (by decide) rfl rfl (Nat.le_of_ble_eq_true rfl) ⟨Nat.le_refl _, Or.inl rfl⟩ dX12_sceneLine_3 ⟨rfl, hV0⟩ (fun r7 V8 hp9 => ?_)
  obtain ⟨y10, rfl, b11, rfl, hE12⟩ := hp9
  replace hT := hT.trans (pf_call_eq hE12)
  change pm_J X 6 [(0, (3, 90))] [(0, y10)] 118 V0
  refine pm_if_eq (tgt := 14) hC ⟨by omega, by omega⟩ dX12_sceneLine_6 (by decide) (fun c13 => ?_) (fun c13 => ?_)
  · skip
    replace hT := hT.trans (if_pos c13)
    refine pm_aload_n hC 0 (by decide) dX12_sceneLine_14 rfl ?_
    refine pm_ldcS (tx := "voice") (q := 1) hC (by decide) dX12_sceneLine_15 ?_
    change pm_J X 17 [(0, (3, 90))] [(4, 1), (3, 90)] 118 V0
    refine pm_callV (ci := 12) (as := [(4, 1)]) (st := []) hC 90 (fP_X12_isWord 1 ⟨by decide, by decide⟩) lm_X12_156 li_X12_isWord (by decide) (by decide) rfl rfl rfl (by decide) rfl rfl (Nat.le_of_ble_eq_true rfl) ⟨Nat.le_refl _, Or.inl rfl⟩ dX12_sceneLine_17 ⟨rfl, hV0⟩ (fun r14 V15 hp16 => ?_)
    obtain ⟨y17, rfl, b18, rfl, hE19⟩ := hp16
    replace hT := hT.trans (pf_call_eq hE19)
    change pm_J X 20 [(0, (3, 90))] [(0, y17)] 118 V0
    refine pm_if_eq (tgt := 29) hC ⟨by omega, by omega⟩ dX12_sceneLine_20 (by decide) (fun c20 => ?_) (fun c20 => ?_)
    · skip
      replace hT := hT.trans (if_pos c20)
      refine pm_aload_n hC 0 (by decide) dX12_sceneLine_29 rfl ?_
      refine pm_ldcS (tx := "face") (q := 2) hC (by decide) dX12_sceneLine_30 ?_
      change pm_J X 32 [(0, (3, 90))] [(4, 2), (3, 90)] 118 V0
      refine pm_callV (ci := 12) (as := [(4, 2)]) (st := []) hC 90 (fP_X12_isWord 2 ⟨by decide, by decide⟩) lm_X12_156 li_X12_isWord (by decide) (by decide) rfl rfl rfl (by decide) rfl rfl (Nat.le_of_ble_eq_true rfl) ⟨Nat.le_refl _, Or.inl rfl⟩ dX12_sceneLine_32 ⟨rfl, hV0⟩ (fun r21 V22 hp23 => ?_)
      obtain ⟨y24, rfl, b25, rfl, hE26⟩ := hp23
      replace hT := hT.trans (pf_call_eq hE26)
      change pm_J X 35 [(0, (3, 90))] [(0, y24)] 118 V0
      refine pm_if_eq (tgt := 44) hC ⟨by omega, by omega⟩ dX12_sceneLine_35 (by decide) (fun c27 => ?_) (fun c27 => ?_)
      · skip
        replace hT := hT.trans (if_pos c27)
        refine pm_aload_n hC 0 (by decide) dX12_sceneLine_44 rfl ?_
        refine pm_ldcS (tx := "odds") (q := 3) hC (by decide) dX12_sceneLine_45 ?_
        change pm_J X 47 [(0, (3, 90))] [(4, 3), (3, 90)] 118 V0
        refine pm_callV (ci := 12) (as := [(4, 3)]) (st := []) hC 90 (fP_X12_isWord 3 ⟨by decide, by decide⟩) lm_X12_156 li_X12_isWord (by decide) (by decide) rfl rfl rfl (by decide) rfl rfl (Nat.le_of_ble_eq_true rfl) ⟨Nat.le_refl _, Or.inl rfl⟩ dX12_sceneLine_47 ⟨rfl, hV0⟩ (fun r28 V29 hp30 => ?_)
        obtain ⟨y31, rfl, b32, rfl, hE33⟩ := hp30
        replace hT := hT.trans (pf_call_eq hE33)
        change pm_J X 50 [(0, (3, 90))] [(0, y31)] 118 V0
        refine pm_if_eq (tgt := 58) hC ⟨by omega, by omega⟩ dX12_sceneLine_50 (by decide) (fun c34 => ?_) (fun c34 => ?_)
        · skip
          replace hT := hT.trans (if_pos c34)
          refine pm_aload_n hC 0 (by decide) dX12_sceneLine_58 rfl ?_
          refine pm_ldcS (tx := "hold") (q := 4) hC (by decide) dX12_sceneLine_59 ?_
          change pm_J X 61 [(0, (3, 90))] [(4, 4), (3, 90)] 118 V0
          refine pm_callV (ci := 12) (as := [(4, 4)]) (st := []) hC 90 (fP_X12_isWord 4 ⟨by decide, by decide⟩) lm_X12_156 li_X12_isWord (by decide) (by decide) rfl rfl rfl (by decide) rfl rfl (Nat.le_of_ble_eq_true rfl) ⟨Nat.le_refl _, Or.inl rfl⟩ dX12_sceneLine_61 ⟨rfl, hV0⟩ (fun r35 V36 hp37 => ?_)
          obtain ⟨y38, rfl, b39, rfl, hE40⟩ := hp37
          replace hT := hT.trans (pf_call_eq hE40)
          change pm_J X 64 [(0, (3, 90))] [(0, y38)] 118 V0
          refine pm_if_eq (tgt := 72) hC ⟨by omega, by omega⟩ dX12_sceneLine_64 (by decide) (fun c41 => ?_) (fun c41 => ?_)
          · skip
            replace hT := hT.trans (if_pos c41)
            refine pm_aload_n hC 0 (by decide) dX12_sceneLine_72 rfl ?_
            refine pm_ldcS (tx := "learn") (q := 5) hC (by decide) dX12_sceneLine_73 ?_
            change pm_J X 75 [(0, (3, 90))] [(4, 5), (3, 90)] 118 V0
            refine pm_callV (ci := 12) (as := [(4, 5)]) (st := []) hC 90 (fP_X12_isWord 5 ⟨by decide, by decide⟩) lm_X12_156 li_X12_isWord (by decide) (by decide) rfl rfl rfl (by decide) rfl rfl (Nat.le_of_ble_eq_true rfl) ⟨Nat.le_refl _, Or.inl rfl⟩ dX12_sceneLine_75 ⟨rfl, hV0⟩ (fun r42 V43 hp44 => ?_)
            obtain ⟨y45, rfl, b46, rfl, hE47⟩ := hp44
            replace hT := hT.trans (pf_call_eq hE47)
            change pm_J X 78 [(0, (3, 90))] [(0, y45)] 118 V0
            refine pm_if_eq (tgt := 92) hC ⟨by omega, by omega⟩ dX12_sceneLine_78 (by decide) (fun c48 => ?_) (fun c48 => ?_)
            · skip
              replace hT := hT.trans (if_pos c48)
              refine pm_iconst (v := 0) hC dX12_sceneLine_92 ?_
              obtain ⟨y49, e50⟩ : ∃ y, V0 90 3 = y := ⟨_, rfl⟩
              have b51 := hV0.get 90 3 (lo := 0) (hi := 4) (by decide) (by decide) rfl
              rw [e50] at b51
              replace hT := hT.trans (pf_let_eq e50)
              obtain ⟨y52, e53⟩ : ∃ y, V0 90 4 = y := ⟨_, rfl⟩
              have b54 := hV0.get 90 4 (lo := 0) (hi := 500) (by decide) (by decide) rfl
              rw [e53] at b54
              replace hT := hT.trans (pf_let_eq e53)
              exact pm_iret hC hR (pm_narZ (by omega)) ⟨0, rfl, ⟨by omega, by omega, by omega, by omega⟩, hV0, (pm_fs.rf (cs := [92, 93, 94, 95, 96]) (fs := [2, 3, 4, 5, 6, 11, 12, 13, 37]) (V := V0)), hn_pm_az, hT⟩ dX12_sceneLine_93
            · skip
              replace hT := hT.trans (if_neg c48)
              refine pm_aload_n hC 0 (by decide) dX12_sceneLine_81 rfl ?_
              obtain ⟨y55, e56⟩ : ∃ y, V0 90 3 = y := ⟨_, rfl⟩
              have b57 := hV0.get 90 3 (lo := 0) (hi := 4) (by decide) (by decide) rfl
              rw [e56] at b57
              replace hT := hT.trans (pf_let_eq e56)
              obtain ⟨y58, e59⟩ : ∃ y, V0 90 4 = y := ⟨_, rfl⟩
              have b60 := hV0.get 90 4 (lo := 0) (hi := 500) (by decide) (by decide) rfl
              rw [e59] at b60
              replace hT := hT.trans (pf_let_eq e59)
              refine pm_callV (ci := 12) (as := []) (st := []) hC 90 fP_X12_learnLine lm_X12_207 li_X12_learnLine (by decide) (by decide) rfl rfl rfl (by decide) rfl rfl (Nat.le_of_ble_eq_true rfl) ⟨Nat.le_refl _, Or.inl rfl⟩ dX12_sceneLine_82 ⟨rfl, hV0, hn_pm_az⟩ (fun r61 V62 hp63 => ?_)
              obtain ⟨y64, rfl, b65, hV66, hF67, hg68, hE69⟩ := hp63
              replace hT := hT.trans (pf_call_eq hE69)
              change pm_J X 85 [(0, (3, 90))] [(0, y64)] 118 V62
              have hF70 := pm_fs.tr (pm_fs.rf (cs := [92, 93, 94, 95, 96]) (fs := [2, 3, 4, 5, 6, 11, 12, 13, 37]) (V := V0)) hF67 (by decide) (by decide)
              have e71 : V62 90 1 = y1 := by rw [hF67.2 1 (by decide)]; exact e2
              obtain ⟨y72, e73⟩ : ∃ y, V62 90 2 = y := ⟨_, rfl⟩
              have b74 := hV66.get 90 2 (lo := 0) (hi := 500) (by decide) (by decide) rfl
              rw [e73] at b74
              replace hT := hT.trans (pf_let_eq e73)
              obtain ⟨y75, e76⟩ : ∃ y, V62 90 3 = y := ⟨_, rfl⟩
              have b77 := hV66.get 90 3 (lo := 0) (hi := 4) (by decide) (by decide) rfl
              rw [e76] at b77
              replace hT := hT.trans (pf_let_eq e76)
              obtain ⟨y78, e79⟩ : ∃ y, V62 90 4 = y := ⟨_, rfl⟩
              have b80 := hV66.get 90 4 (lo := 0) (hi := 500) (by decide) (by decide) rfl
              rw [e79] at b80
              replace hT := hT.trans (pf_let_eq e79)
              refine pm_if_eq (tgt := 92) hC ⟨by omega, by omega⟩ dX12_sceneLine_85 (by decide) (fun c81 => ?_) (fun c81 => ?_)
              · skip
                replace hT := hT.trans (if_pos c81)
                refine pm_iconst (v := 0) hC dX12_sceneLine_92 ?_
                exact pm_iret hC hR (pm_narZ (by omega)) ⟨0, rfl, ⟨by omega, by omega, by omega, by omega⟩, hV66, hF70, hg68, hT⟩ dX12_sceneLine_93
              · skip
                replace hT := hT.trans (if_neg c81)
                refine pm_iconst (v := 1) hC dX12_sceneLine_88 ?_
                refine pm_goto (tgt := 93) hC dX12_sceneLine_89 (by decide) ?_
                exact pm_iret hC hR (pm_narZ (by omega)) ⟨1, rfl, ⟨by omega, by omega, by omega, by omega⟩, hV66, hF70, hg68, hT⟩ dX12_sceneLine_93
          · skip
            replace hT := hT.trans (if_neg c41)
            refine pm_aload_n hC 0 (by decide) dX12_sceneLine_67 rfl ?_
            obtain ⟨y82, e83⟩ : ∃ y, V0 90 3 = y := ⟨_, rfl⟩
            have b84 := hV0.get 90 3 (lo := 0) (hi := 4) (by decide) (by decide) rfl
            rw [e83] at b84
            replace hT := hT.trans (pf_let_eq e83)
            obtain ⟨y85, e86⟩ : ∃ y, V0 90 4 = y := ⟨_, rfl⟩
            have b87 := hV0.get 90 4 (lo := 0) (hi := 500) (by decide) (by decide) rfl
            rw [e86] at b87
            replace hT := hT.trans (pf_let_eq e86)
            refine pm_callV (ci := 12) (as := []) (st := []) hC 90 fP_X12_holdLine lm_X12_204 li_X12_holdLine (by decide) (by decide) rfl rfl rfl (by decide) rfl rfl (Nat.le_of_ble_eq_true rfl) ⟨Nat.le_refl _, Or.inl rfl⟩ dX12_sceneLine_68 ⟨rfl, hV0, hn_pm_az⟩ (fun r88 V89 hp90 => ?_)
            obtain ⟨y91, rfl, b92, hV93, hF94, hg95, hE96⟩ := hp90
            replace hT := hT.trans (pf_call_eq hE96)
            change pm_J X 71 [(0, (3, 90))] [(0, y91)] 118 V89
            have hF97 := pm_fs.tr (pm_fs.rf (cs := [92, 93, 94, 95, 96]) (fs := [2, 3, 4, 5, 6, 11, 12, 13, 37]) (V := V0)) hF94 (by decide) (by decide)
            have e98 : V89 90 1 = y1 := by rw [hF94.2 1 (by decide)]; exact e2
            obtain ⟨y99, e100⟩ : ∃ y, V89 90 2 = y := ⟨_, rfl⟩
            have b101 := hV93.get 90 2 (lo := 0) (hi := 500) (by decide) (by decide) rfl
            rw [e100] at b101
            replace hT := hT.trans (pf_let_eq e100)
            obtain ⟨y102, e103⟩ : ∃ y, V89 90 3 = y := ⟨_, rfl⟩
            have b104 := hV93.get 90 3 (lo := 0) (hi := 4) (by decide) (by decide) rfl
            rw [e103] at b104
            replace hT := hT.trans (pf_let_eq e103)
            obtain ⟨y105, e106⟩ : ∃ y, V89 90 4 = y := ⟨_, rfl⟩
            have b107 := hV93.get 90 4 (lo := 0) (hi := 500) (by decide) (by decide) rfl
            rw [e106] at b107
            replace hT := hT.trans (pf_let_eq e106)
            exact pm_iret hC hR (pm_narZ (by omega)) ⟨y91, rfl, ⟨by omega, by omega, by omega, by omega⟩, hV93, hF97, hg95, hT⟩ dX12_sceneLine_71
        · skip
          replace hT := hT.trans (if_neg c34)
          refine pm_aload_n hC 0 (by decide) dX12_sceneLine_53 rfl ?_
          obtain ⟨y108, e109⟩ : ∃ y, V0 90 3 = y := ⟨_, rfl⟩
          have b110 := hV0.get 90 3 (lo := 0) (hi := 4) (by decide) (by decide) rfl
          rw [e109] at b110
          replace hT := hT.trans (pf_let_eq e109)
          obtain ⟨y111, e112⟩ : ∃ y, V0 90 4 = y := ⟨_, rfl⟩
          have b113 := hV0.get 90 4 (lo := 0) (hi := 500) (by decide) (by decide) rfl
          rw [e112] at b113
          replace hT := hT.trans (pf_let_eq e112)
          refine pm_callV (ci := 12) (as := []) (st := []) hC 90 fP_X12_oddsLine lm_X12_201 li_X12_oddsLine (by decide) (by decide) rfl rfl rfl (by decide) rfl rfl (Nat.le_of_ble_eq_true rfl) ⟨Nat.le_refl _, Or.inl rfl⟩ dX12_sceneLine_54 ⟨rfl, hV0, hn_pm_az⟩ (fun r114 V115 hp116 => ?_)
          obtain ⟨y117, rfl, b118, hV119, hF120, hg121, hE122⟩ := hp116
          replace hT := hT.trans (pf_call_eq hE122)
          change pm_J X 57 [(0, (3, 90))] [(0, y117)] 118 V115
          have hF123 := pm_fs.tr (pm_fs.rf (cs := [92, 93, 94, 95, 96]) (fs := [2, 3, 4, 5, 6, 11, 12, 13, 37]) (V := V0)) hF120 (by decide) (by decide)
          have e124 : V115 90 1 = y1 := by rw [hF120.2 1 (by decide)]; exact e2
          obtain ⟨y125, e126⟩ : ∃ y, V115 90 2 = y := ⟨_, rfl⟩
          have b127 := hV119.get 90 2 (lo := 0) (hi := 500) (by decide) (by decide) rfl
          rw [e126] at b127
          replace hT := hT.trans (pf_let_eq e126)
          obtain ⟨y128, e129⟩ : ∃ y, V115 90 3 = y := ⟨_, rfl⟩
          have b130 := hV119.get 90 3 (lo := 0) (hi := 4) (by decide) (by decide) rfl
          rw [e129] at b130
          replace hT := hT.trans (pf_let_eq e129)
          obtain ⟨y131, e132⟩ : ∃ y, V115 90 4 = y := ⟨_, rfl⟩
          have b133 := hV119.get 90 4 (lo := 0) (hi := 500) (by decide) (by decide) rfl
          rw [e132] at b133
          replace hT := hT.trans (pf_let_eq e132)
          exact pm_iret hC hR (pm_narZ (by omega)) ⟨y117, rfl, ⟨by omega, by omega, by omega, by omega⟩, hV119, hF123, hg121, hT⟩ dX12_sceneLine_57
      · skip
        replace hT := hT.trans (if_neg c27)
        refine pm_aload_n hC 0 (by decide) dX12_sceneLine_38 rfl ?_
        refine pm_iconst (v := 2) hC dX12_sceneLine_39 ?_
        obtain ⟨y134, e135⟩ : ∃ y, V0 90 3 = y := ⟨_, rfl⟩
        have b136 := hV0.get 90 3 (lo := 0) (hi := 4) (by decide) (by decide) rfl
        rw [e135] at b136
        replace hT := hT.trans (pf_let_eq e135)
        obtain ⟨y137, e138⟩ : ∃ y, V0 90 4 = y := ⟨_, rfl⟩
        have b139 := hV0.get 90 4 (lo := 0) (hi := 500) (by decide) (by decide) rfl
        rw [e138] at b139
        replace hT := hT.trans (pf_let_eq e138)
        refine pm_callV (ci := 12) (as := [(0, 2)]) (st := []) hC 90 fP_X12_spanLine_d2 lm_X12_198 li_X12_spanLine (by decide) (by decide) rfl rfl rfl (by decide) rfl rfl (Nat.le_of_ble_eq_true rfl) ⟨Nat.le_refl _, Or.inl rfl⟩ dX12_sceneLine_40 ⟨rfl, hV0, hn_pm_az⟩ (fun r140 V141 hp142 => ?_)
        obtain ⟨y143, rfl, b144, hV145, hF146, hg147, hE148⟩ := hp142
        replace hT := hT.trans (pf_call_eq hE148)
        change pm_J X 43 [(0, (3, 90))] [(0, y143)] 118 V141
        have hF149 := pm_fs.tr (pm_fs.rf (cs := [92, 93, 94, 95, 96]) (fs := [2, 3, 4, 5, 6, 11, 12, 13, 37]) (V := V0)) hF146 (by decide) (by decide)
        have e150 : V141 90 1 = y1 := by rw [hF146.2 1 (by decide)]; exact e2
        obtain ⟨y151, e152⟩ : ∃ y, V141 90 2 = y := ⟨_, rfl⟩
        have b153 := hV145.get 90 2 (lo := 0) (hi := 500) (by decide) (by decide) rfl
        rw [e152] at b153
        replace hT := hT.trans (pf_let_eq e152)
        obtain ⟨y154, e155⟩ : ∃ y, V141 90 3 = y := ⟨_, rfl⟩
        have b156 := hV145.get 90 3 (lo := 0) (hi := 4) (by decide) (by decide) rfl
        rw [e155] at b156
        replace hT := hT.trans (pf_let_eq e155)
        obtain ⟨y157, e158⟩ : ∃ y, V141 90 4 = y := ⟨_, rfl⟩
        have b159 := hV145.get 90 4 (lo := 0) (hi := 500) (by decide) (by decide) rfl
        rw [e158] at b159
        replace hT := hT.trans (pf_let_eq e158)
        exact pm_iret hC hR (pm_narZ (by omega)) ⟨y143, rfl, ⟨by omega, by omega, by omega, by omega⟩, hV145, hF149, hg147, hT⟩ dX12_sceneLine_43
    · skip
      replace hT := hT.trans (if_neg c20)
      refine pm_aload_n hC 0 (by decide) dX12_sceneLine_23 rfl ?_
      refine pm_iconst (v := 0) hC dX12_sceneLine_24 ?_
      obtain ⟨y160, e161⟩ : ∃ y, V0 90 3 = y := ⟨_, rfl⟩
      have b162 := hV0.get 90 3 (lo := 0) (hi := 4) (by decide) (by decide) rfl
      rw [e161] at b162
      replace hT := hT.trans (pf_let_eq e161)
      obtain ⟨y163, e164⟩ : ∃ y, V0 90 4 = y := ⟨_, rfl⟩
      have b165 := hV0.get 90 4 (lo := 0) (hi := 500) (by decide) (by decide) rfl
      rw [e164] at b165
      replace hT := hT.trans (pf_let_eq e164)
      refine pm_callV (ci := 12) (as := [(0, 0)]) (st := []) hC 90 fP_X12_spanLine_d0 lm_X12_198 li_X12_spanLine (by decide) (by decide) rfl rfl rfl (by decide) rfl rfl (Nat.le_of_ble_eq_true rfl) ⟨Nat.le_refl _, Or.inl rfl⟩ dX12_sceneLine_25 ⟨rfl, hV0, hn_pm_az⟩ (fun r166 V167 hp168 => ?_)
      obtain ⟨y169, rfl, b170, hV171, hF172, hg173, hE174⟩ := hp168
      replace hT := hT.trans (pf_call_eq hE174)
      change pm_J X 28 [(0, (3, 90))] [(0, y169)] 118 V167
      have hF175 := pm_fs.tr (pm_fs.rf (cs := [92, 93, 94, 95, 96]) (fs := [2, 3, 4, 5, 6, 11, 12, 13, 37]) (V := V0)) hF172 (by decide) (by decide)
      have e176 : V167 90 1 = y1 := by rw [hF172.2 1 (by decide)]; exact e2
      obtain ⟨y177, e178⟩ : ∃ y, V167 90 2 = y := ⟨_, rfl⟩
      have b179 := hV171.get 90 2 (lo := 0) (hi := 500) (by decide) (by decide) rfl
      rw [e178] at b179
      replace hT := hT.trans (pf_let_eq e178)
      obtain ⟨y180, e181⟩ : ∃ y, V167 90 3 = y := ⟨_, rfl⟩
      have b182 := hV171.get 90 3 (lo := 0) (hi := 4) (by decide) (by decide) rfl
      rw [e181] at b182
      replace hT := hT.trans (pf_let_eq e181)
      obtain ⟨y183, e184⟩ : ∃ y, V167 90 4 = y := ⟨_, rfl⟩
      have b185 := hV171.get 90 4 (lo := 0) (hi := 500) (by decide) (by decide) rfl
      rw [e184] at b185
      replace hT := hT.trans (pf_let_eq e184)
      exact pm_iret hC hR (pm_narZ (by omega)) ⟨y169, rfl, ⟨by omega, by omega, by omega, by omega⟩, hV171, hF175, hg173, hT⟩ dX12_sceneLine_28
  · skip
    replace hT := hT.trans (if_neg c13)
    refine pm_aload_n hC 0 (by decide) dX12_sceneLine_9 rfl ?_
    obtain ⟨y186, e187⟩ : ∃ y, V0 90 3 = y := ⟨_, rfl⟩
    have b188 := hV0.get 90 3 (lo := 0) (hi := 4) (by decide) (by decide) rfl
    rw [e187] at b188
    replace hT := hT.trans (pf_let_eq e187)
    obtain ⟨y189, e190⟩ : ∃ y, V0 90 4 = y := ⟨_, rfl⟩
    have b191 := hV0.get 90 4 (lo := 0) (hi := 500) (by decide) (by decide) rfl
    rw [e190] at b191
    replace hT := hT.trans (pf_let_eq e190)
    refine pm_callV (ci := 12) (as := []) (st := []) hC 90 fP_X12_soundLine lm_X12_195 li_X12_soundLine (by decide) (by decide) rfl rfl rfl (by decide) rfl rfl (Nat.le_of_ble_eq_true rfl) ⟨Nat.le_refl _, Or.inl rfl⟩ dX12_sceneLine_10 ⟨rfl, hV0, hn_pm_az⟩ (fun r192 V193 hp194 => ?_)
    obtain ⟨y195, rfl, b196, hV197, hF198, hg199, hE200⟩ := hp194
    replace hT := hT.trans (pf_call_eq hE200)
    change pm_J X 13 [(0, (3, 90))] [(0, y195)] 118 V193
    have hF201 := pm_fs.tr (pm_fs.rf (cs := [92, 93, 94, 95, 96]) (fs := [2, 3, 4, 5, 6, 11, 12, 13, 37]) (V := V0)) hF198 (by decide) (by decide)
    have e202 : V193 90 1 = y1 := by rw [hF198.2 1 (by decide)]; exact e2
    obtain ⟨y203, e204⟩ : ∃ y, V193 90 2 = y := ⟨_, rfl⟩
    have b205 := hV197.get 90 2 (lo := 0) (hi := 500) (by decide) (by decide) rfl
    rw [e204] at b205
    replace hT := hT.trans (pf_let_eq e204)
    obtain ⟨y206, e207⟩ : ∃ y, V193 90 3 = y := ⟨_, rfl⟩
    have b208 := hV197.get 90 3 (lo := 0) (hi := 4) (by decide) (by decide) rfl
    rw [e207] at b208
    replace hT := hT.trans (pf_let_eq e207)
    obtain ⟨y209, e210⟩ : ∃ y, V193 90 4 = y := ⟨_, rfl⟩
    have b211 := hV197.get 90 4 (lo := 0) (hi := 500) (by decide) (by decide) rfl
    rw [e210] at b211
    replace hT := hT.trans (pf_let_eq e210)
    exact pm_iret hC hR (pm_narZ (by omega)) ⟨y195, rfl, ⟨by omega, by omega, by omega, by omega⟩, hV197, hF201, hg199, hT⟩ dX12_sceneLine_13
set_option maxHeartbeats 4000000 in
set_option maxRecDepth 100000 in
theorem fP_X12_sceneFault  : pm_K 10 yX12_sceneFault cX12_sceneFault 1 (some .int) (fun av V => av = [(3, 90)] ∧ pm_oq pm_qP V) (fun _ V r V' => ∃ y, r = some (0, y) ∧ ((-1) ≤ y ∧ y ≤ 500) ∧ pm_oq pm_qP V' ∧ pm_fs [92, 93, 94, 95, 96] [2, 3, 4, 5, 6, 11, 12, 13, 37] V V' ∧ pm_az V' ∧ F_X12_sceneFault  V = (y, V')) := by
  refine pm_MT.of (by decide) ⟨Nat.le_refl _, by decide⟩ (fun av V h => by rw [h.1]; exact (by decide : pm_words [(3, 0)] ≤ 1)) ?_
  rintro X av V0 hC - hR ⟨rfl, hV0⟩
  change pm_J X 0 [(0, (3, 90))] [] 118 V0
  have hT := F_X12_sceneFault_eq  V0
  refine pm_aload_n hC 0 (by decide) dX12_sceneFault_0 rfl ?_
  refine pm_iconst (v := 0) hC dX12_sceneFault_1 ?_
  refine pm_putf hC 90 fl_X12_169 rfl rfl rfl (by decide) rfl trivial dX12_sceneFault_2 ?_
  refine pm_aload_n hC 0 (by decide) dX12_sceneFault_5 rfl ?_
  refine pm_iconst (v := 0) hC dX12_sceneFault_6 ?_
  refine pm_putf hC 90 fl_X12_192 rfl rfl rfl (by decide) rfl trivial dX12_sceneFault_7 ?_
  refine pm_aload_n hC 0 (by decide) dX12_sceneFault_10 rfl ?_
  have e1 : V0 90 10 = 95 := hV0.one 90 10 (by decide) (by decide) rfl
  refine pm_getf (v := 95) hC 90 fl_X12_25 rfl rfl (by decide) rfl e1 dX12_sceneFault_11 ?_
  refine pm_iconst (v := 0) hC dX12_sceneFault_14 ?_
  refine pm_iconst (v := (-1)) hC dX12_sceneFault_15 ?_
  refine pm_iastore (len := 4) hC 95 rfl rfl (by decide) ⟨by decide, by decide⟩ (by decide) dX12_sceneFault_16 ?_
  refine pm_aload_n hC 0 (by decide) dX12_sceneFault_17 rfl ?_
  refine pm_getf (v := 95) hC 90 fl_X12_25 rfl rfl (by decide) rfl e1 dX12_sceneFault_18 ?_
  refine pm_iconst (v := 2) hC dX12_sceneFault_21 ?_
  refine pm_iconst (v := (-1)) hC dX12_sceneFault_22 ?_
  refine pm_iastore (len := 4) hC 95 rfl rfl (by decide) ⟨by decide, by decide⟩ (by decide) dX12_sceneFault_23 ?_
  refine pm_aload_n hC 0 (by decide) dX12_sceneFault_24 rfl ?_
  refine pm_iconst (v := (-1)) hC dX12_sceneFault_25 ?_
  refine pm_putf hC 90 fl_X12_186 rfl rfl rfl (by decide) rfl trivial dX12_sceneFault_26 ?_
  refine pm_aload_n hC 0 (by decide) dX12_sceneFault_29 rfl ?_
  refine pm_iconst (v := 0) hC dX12_sceneFault_30 ?_
  refine pm_putf hC 90 fl_X12_102 rfl rfl rfl (by decide) rfl trivial dX12_sceneFault_31 ?_
  have hV4 := ((((((hV0.put 90 6 (x := 0) (lo := 0) (hi := 9) rfl ⟨by decide, by decide⟩).put 90 13 (x := 0) (lo := 0) (hi := 12) rfl ⟨by decide, by decide⟩).put 95 (0 : Int).toNat (x := (-1)) (lo := (-1)) (hi := 60) ((pm_qe_r (tb := pm_qP) (k := 95) (i := (0 : Int).toNat) (m := 4) (r := 0) (l := [(-1, 60, 0), (0, 9, 0), (-1, 60, 0), (0, 9, 0)]) rfl rfl (by omega)).trans rfl) ⟨by decide, by decide⟩).put 95 (2 : Int).toNat (x := (-1)) (lo := (-1)) (hi := 60) ((pm_qe_r (tb := pm_qP) (k := 95) (i := (2 : Int).toNat) (m := 4) (r := 2) (l := [(-1, 60, 0), (0, 9, 0), (-1, 60, 0), (0, 9, 0)]) rfl rfl (by omega)).trans rfl) ⟨by decide, by decide⟩).put 90 11 (x := (-1)) (lo := (-1)) (hi := 16) rfl ⟨by decide, by decide⟩).put 90 2 (x := 0) (lo := 0) (hi := 500) rfl ⟨by decide, by decide⟩)
  have hF5 := (((((((pm_fs.rf (cs := [92, 93, 94, 95, 96]) (fs := [2, 3, 4, 5, 6, 11, 12, 13, 37]) (V := V0)).upf 6 0 rfl).upf 13 0 rfl).up 95 (0 : Int).toNat (-1) (by decide) rfl).up 95 (2 : Int).toNat (-1) (by decide) rfl).upf 11 (-1) rfl).upf 2 0 rfl)
  obtain ⟨V2, hv3⟩ : ∃ V, V = (pm_up (pm_up (pm_up (pm_up (pm_up (pm_up V0 90 6 0) 90 13 0) 95 (0 : Int).toNat (-1)) 95 (2 : Int).toNat (-1)) 90 11 (-1)) 90 2 0) := ⟨_, rfl⟩
  rw [← hv3] at hV4 hF5
  rw [← hv3]
  replace hT := hT.trans (pf_let_eq hv3.symm)
  have e6 : V2 90 10 = 95 := by rw [hv3]; exact e1
  have e7 : V2 90 6 = 0 := by rw [hv3]; rfl
  have e8 : V2 90 13 = 0 := by rw [hv3]; rfl
  have e9 : V2 90 11 = (-1) := by rw [hv3]; rfl
  have e10 : V2 90 2 = 0 := by rw [hv3]; rfl
  obtain ⟨y11, e12⟩ : ∃ y, V2 90 1 = y := ⟨_, rfl⟩
  have b13 := hV4.get 90 1 (lo := 0) (hi := 500) (by decide) (by decide) rfl
  rw [e12] at b13
  replace hT := hT.trans (pf_let_eq e12)
  have haz14 : pm_az V2 := by unfold pm_az; rw [e10, e12]; omega
  refine pm_aload_n hC 0 (by decide) dX12_sceneFault_34 rfl ?_
  obtain ⟨y15, e16⟩ : ∃ y, V2 90 3 = y := ⟨_, rfl⟩
  have b17 := hV4.get 90 3 (lo := 0) (hi := 4) (by decide) (by decide) rfl
  rw [e16] at b17
  replace hT := hT.trans (pf_let_eq e16)
  obtain ⟨y18, e19⟩ : ∃ y, V2 90 4 = y := ⟨_, rfl⟩
  have b20 := hV4.get 90 4 (lo := 0) (hi := 500) (by decide) (by decide) rfl
  rw [e19] at b20
  replace hT := hT.trans (pf_let_eq e19)
  refine pm_callV (ci := 12) (as := []) (st := []) hC 90 fP_X12_leads lm_X12_148 li_X12_leads (by decide) (by decide) rfl rfl rfl (by decide) rfl rfl (Nat.le_of_ble_eq_true rfl) ⟨Nat.le_refl _, Or.inl rfl⟩ dX12_sceneFault_35 ⟨rfl, hV4, haz14⟩ (fun r21 V22 hp23 => ?_)
  obtain ⟨rfl, hV24, hF25, hg26, hE27⟩ := hp23
  replace hT := hT.trans (pf_call_eq hE27)
  change pm_J X 38 [(0, (3, 90))] [] 118 V22
  have hF28 := pm_fs.tr hF5 hF25 (by decide) (by decide)
  have e29 : V22 90 10 = 95 := by rw [hF25.2 10 (by decide)]; exact e6
  have e30 : V22 90 6 = 0 := by rw [hF25.2 6 (by decide)]; exact e7
  have e31 : V22 90 13 = 0 := by rw [hF25.2 13 (by decide)]; exact e8
  have e32 : V22 90 11 = (-1) := by rw [hF25.2 11 (by decide)]; exact e9
  have e33 : V22 90 1 = y11 := by rw [hF25.2 1 (by decide)]; exact e12
  obtain ⟨y34, e35⟩ : ∃ y, V22 90 2 = y := ⟨_, rfl⟩
  have b36 := hV24.get 90 2 (lo := 0) (hi := 500) (by decide) (by decide) rfl
  rw [e35] at b36
  replace hT := hT.trans (pf_let_eq e35)
  obtain ⟨y37, e38⟩ : ∃ y, V22 90 3 = y := ⟨_, rfl⟩
  have b39 := hV24.get 90 3 (lo := 0) (hi := 4) (by decide) (by decide) rfl
  rw [e38] at b39
  replace hT := hT.trans (pf_let_eq e38)
  obtain ⟨y40, e41⟩ : ∃ y, V22 90 4 = y := ⟨_, rfl⟩
  have b42 := hV24.get 90 4 (lo := 0) (hi := 500) (by decide) (by decide) rfl
  rw [e41] at b42
  replace hT := hT.trans (pf_let_eq e41)
  have hpr43 := r_leads_pr hV4 haz14 hE27
  obtain ⟨B50, hB51, hT⟩ := pf_loop hT
  have L53 : ∀ (N55 : Nat) (V44 : pm_M), pm_oq pm_qP V44 → pm_fs [92, 93, 94, 95, 96] [2, 3, 4, 5, 6, 11, 12, 13, 37] V0 V44 → V44 90 10 = 95 → V44 90 1 = y11 → pm_az V44 → F_X12_sceneFault  V0 = pf_val ((0 : Int), V0) B50 V44 → (Int.toNat (5 * (500 - V44 90 2) + V44 90 3)) = N55 → pm_J X 38 [(0, (3, 90))] [] 118 V44 := by
    intro N55
    induction N55 using Nat.strongRecOn with
    | _ N55 ih56 =>
    intro V44 hV45 hF46 e47 e48 hp49 hT hm54
    have hb52 := congrFun hB51 V44
    refine pm_aload_n hC 0 (by decide) dX12_sceneFault_38 rfl ?_
    obtain ⟨y57, e58⟩ : ∃ y, V44 90 3 = y := ⟨_, rfl⟩
    have b59 := hV45.get 90 3 (lo := 0) (hi := 4) (by decide) (by decide) rfl
    rw [e58] at b59
    replace hb52 := hb52.trans (pf_let_eq e58)
    refine pm_getf (v := y57) hC 90 fl_X12_112 rfl rfl (by decide) rfl e58 dX12_sceneFault_39 ?_
    refine pm_if_eq (tgt := 57) hC ⟨by omega, by omega⟩ dX12_sceneFault_42 (by decide) (fun c60 => ?_) (fun c60 => ?_)
    · skip
      replace hb52 := hb52.trans (if_pos c60)
      refine pm_aload_n hC 0 (by decide) dX12_sceneFault_57 rfl ?_
      obtain ⟨y61, e62⟩ : ∃ y, V44 90 6 = y := ⟨_, rfl⟩
      have b63 := hV45.get 90 6 (lo := 0) (hi := 9) (by decide) (by decide) rfl
      rw [e62] at b63
      replace hb52 := hb52.trans (pf_let_eq e62)
      refine pm_getf (v := y61) hC 90 fl_X12_169 rfl rfl (by decide) rfl e62 dX12_sceneFault_58 ?_
      refine pm_iconst (v := 2) hC dX12_sceneFault_61 ?_
      refine pm_icmp_lt (tgt := 85) hC ⟨by omega, by omega⟩ ⟨by decide, by decide⟩ dX12_sceneFault_62 (by decide) (fun c64 => ?_) (fun c64 => ?_)
      · skip
        replace hb52 := hb52.trans (if_pos c64)
        refine pm_aload_n hC 0 (by decide) dX12_sceneFault_85 rfl ?_
        obtain ⟨y65, e66⟩ : ∃ y, V44 90 4 = y := ⟨_, rfl⟩
        have b67 := hV45.get 90 4 (lo := 0) (hi := 500) (by decide) (by decide) rfl
        rw [e66] at b67
        replace hb52 := hb52.trans (pf_let_eq e66)
        refine pm_getf (v := y65) hC 90 fl_X12_105 rfl rfl (by decide) rfl e66 dX12_sceneFault_86 ?_
        refine pm_goto (tgt := 93) hC dX12_sceneFault_89 (by decide) ?_
        have hT := hT.trans (pf_val_inr hb52)
        exact pm_iret hC hR pm_nar0 ⟨y65, rfl, ⟨by omega, by omega⟩, hV45, hF46, hp49, hT⟩ dX12_sceneFault_93
      · skip
        replace hb52 := hb52.trans (if_neg (Int.not_lt.mpr c64))
        refine pm_aload_n hC 0 (by decide) dX12_sceneFault_65 rfl ?_
        refine pm_getf (v := 95) hC 90 fl_X12_25 rfl rfl (by decide) rfl e47 dX12_sceneFault_66 ?_
        refine pm_iconst (v := 0) hC dX12_sceneFault_69 ?_
        obtain ⟨y68, e69⟩ : ∃ y, V44 95 (0 : Int).toNat = y := ⟨_, rfl⟩
        replace hb52 := hb52.trans (pf_let_eq e69)
        have b70 := hV45.get 95 (0 : Int).toNat (lo := (-1)) (hi := 60) (t := 0) (by decide) (show _ < 4 by omega) rfl
        rw [e69] at b70
        refine pm_iaload (len := 4) (v := y68) hC 95 rfl rfl (by decide) ⟨by decide, by decide⟩ (by decide) e69 dX12_sceneFault_70 ?_
        refine pm_iconst (v := (-1)) hC dX12_sceneFault_71 ?_
        refine pm_icmp_eq (tgt := 85) hC ⟨by omega, by omega⟩ ⟨by decide, by decide⟩ dX12_sceneFault_72 (by decide) (fun c71 => ?_) (fun c71 => ?_)
        · skip
          replace hb52 := hb52.trans (if_pos c71)
          refine pm_aload_n hC 0 (by decide) dX12_sceneFault_85 rfl ?_
          obtain ⟨y72, e73⟩ : ∃ y, V44 90 4 = y := ⟨_, rfl⟩
          have b74 := hV45.get 90 4 (lo := 0) (hi := 500) (by decide) (by decide) rfl
          rw [e73] at b74
          replace hb52 := hb52.trans (pf_let_eq e73)
          refine pm_getf (v := y72) hC 90 fl_X12_105 rfl rfl (by decide) rfl e73 dX12_sceneFault_86 ?_
          refine pm_goto (tgt := 93) hC dX12_sceneFault_89 (by decide) ?_
          have hT := hT.trans (pf_val_inr hb52)
          exact pm_iret hC hR pm_nar0 ⟨y72, rfl, ⟨by omega, by omega⟩, hV45, hF46, hp49, hT⟩ dX12_sceneFault_93
        · skip
          replace hb52 := hb52.trans (if_neg c71)
          refine pm_aload_n hC 0 (by decide) dX12_sceneFault_75 rfl ?_
          refine pm_getf (v := 95) hC 90 fl_X12_25 rfl rfl (by decide) rfl e47 dX12_sceneFault_76 ?_
          refine pm_iconst (v := 2) hC dX12_sceneFault_79 ?_
          obtain ⟨y75, e76⟩ : ∃ y, V44 95 (2 : Int).toNat = y := ⟨_, rfl⟩
          replace hb52 := hb52.trans (pf_let_eq e76)
          have b77 := hV45.get 95 (2 : Int).toNat (lo := (-1)) (hi := 60) (t := 0) (by decide) (show _ < 4 by omega) rfl
          rw [e76] at b77
          refine pm_iaload (len := 4) (v := y75) hC 95 rfl rfl (by decide) ⟨by decide, by decide⟩ (by decide) e76 dX12_sceneFault_80 ?_
          refine pm_iconst (v := (-1)) hC dX12_sceneFault_81 ?_
          refine pm_icmp_ne (tgt := 92) hC ⟨by omega, by omega⟩ ⟨by decide, by decide⟩ dX12_sceneFault_82 (by decide) (fun c78 => ?_) (fun c78 => ?_)
          · skip
            replace hb52 := hb52.trans (if_pos c78)
            refine pm_iconst (v := (-1)) hC dX12_sceneFault_92 ?_
            have hT := hT.trans (pf_val_inr hb52)
            exact pm_iret hC hR pm_nar0 ⟨(-1), rfl, ⟨by omega, by omega⟩, hV45, hF46, hp49, hT⟩ dX12_sceneFault_93
          · skip
            replace hb52 := hb52.trans (if_neg (fun q => q c78))
            refine pm_aload_n hC 0 (by decide) dX12_sceneFault_85 rfl ?_
            obtain ⟨y79, e80⟩ : ∃ y, V44 90 4 = y := ⟨_, rfl⟩
            have b81 := hV45.get 90 4 (lo := 0) (hi := 500) (by decide) (by decide) rfl
            rw [e80] at b81
            replace hb52 := hb52.trans (pf_let_eq e80)
            refine pm_getf (v := y79) hC 90 fl_X12_105 rfl rfl (by decide) rfl e80 dX12_sceneFault_86 ?_
            refine pm_goto (tgt := 93) hC dX12_sceneFault_89 (by decide) ?_
            have hT := hT.trans (pf_val_inr hb52)
            exact pm_iret hC hR pm_nar0 ⟨y79, rfl, ⟨by omega, by omega⟩, hV45, hF46, hp49, hT⟩ dX12_sceneFault_93
    · skip
      replace hb52 := hb52.trans (if_neg c60)
      refine pm_aload_n hC 0 (by decide) dX12_sceneFault_45 rfl ?_
      obtain ⟨y82, e83⟩ : ∃ y, V44 90 2 = y := ⟨_, rfl⟩
      have b84 := hV45.get 90 2 (lo := 0) (hi := 500) (by decide) (by decide) rfl
      rw [e83] at b84
      replace hb52 := hb52.trans (pf_let_eq e83)
      obtain ⟨y85, e86⟩ : ∃ y, V44 90 4 = y := ⟨_, rfl⟩
      have b87 := hV45.get 90 4 (lo := 0) (hi := 500) (by decide) (by decide) rfl
      rw [e86] at b87
      replace hb52 := hb52.trans (pf_let_eq e86)
      refine pm_callV (ci := 12) (as := []) (st := []) hC 90 fP_X12_sceneLine lm_X12_210 li_X12_sceneLine (by decide) (by decide) rfl rfl rfl (by decide) rfl rfl (Nat.le_of_ble_eq_true rfl) ⟨Nat.le_refl _, Or.inl rfl⟩ dX12_sceneFault_46 ⟨rfl, hV45, hp49⟩ (fun r88 V89 hp90 => ?_)
      obtain ⟨y91, rfl, b92, hV93, hF94, hg95, hE96⟩ := hp90
      replace hb52 := hb52.trans (pf_call_eq hE96)
      change pm_J X 49 [(0, (3, 90))] [(0, y91)] 118 V89
      have hF97 := pm_fs.tr hF46 hF94 (by decide) (by decide)
      have e98 : V89 90 10 = 95 := by rw [hF94.2 10 (by decide)]; exact e47
      have e99 : V89 90 1 = y11 := by rw [hF94.2 1 (by decide)]; exact e48
      obtain ⟨y100, e101⟩ : ∃ y, V89 90 2 = y := ⟨_, rfl⟩
      have b102 := hV93.get 90 2 (lo := 0) (hi := 500) (by decide) (by decide) rfl
      rw [e101] at b102
      replace hb52 := hb52.trans (pf_let_eq e101)
      obtain ⟨y103, e104⟩ : ∃ y, V89 90 3 = y := ⟨_, rfl⟩
      have b105 := hV93.get 90 3 (lo := 0) (hi := 4) (by decide) (by decide) rfl
      rw [e104] at b105
      replace hb52 := hb52.trans (pf_let_eq e104)
      obtain ⟨y106, e107⟩ : ∃ y, V89 90 4 = y := ⟨_, rfl⟩
      have b108 := hV93.get 90 4 (lo := 0) (hi := 500) (by decide) (by decide) rfl
      rw [e107] at b108
      replace hb52 := hb52.trans (pf_let_eq e107)
      refine pm_if_ne (tgt := 38) hC ⟨by omega, by omega⟩ dX12_sceneFault_49 (by decide) (fun c109 => ?_) (fun c109 => ?_)
      · skip
        replace hb52 := hb52.trans (if_pos c109)
        refine pm_lvsub [0] (lv' := [(0, (3, 90))]) rfl ?_
        exact ih56 _ (by omega) V89 hV93 hF97 e98 e99 hg95 (hT.trans (pf_val_inl hb52)) rfl
      · skip
        replace hb52 := hb52.trans (if_neg (fun q => q c109))
        refine pm_aload_n hC 0 (by decide) dX12_sceneFault_52 rfl ?_
        refine pm_getf (v := y106) hC 90 fl_X12_105 rfl rfl (by decide) rfl e107 dX12_sceneFault_53 ?_
        have hT := hT.trans (pf_val_inr hb52)
        exact pm_iret hC hR pm_nar0 ⟨y106, rfl, ⟨by omega, by omega⟩, hV93, hF97, hg95, hT⟩ dX12_sceneFault_56
  refine pm_lvsub [0] (lv' := [(0, (3, 90))]) rfl ?_
  exact L53 _ V22 hV24 hF28 e29 e33 hg26 hT rfl
