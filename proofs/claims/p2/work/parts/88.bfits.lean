noncomputable def F_X12_ones_d0 (V0 : pm_M) : Int × pm_M := pf_let (V0 114 0) fun y1 => pf_let (V0 114 1) fun y4 => pf_let (V0 114 2) fun y7 => pf_let (V0 114 3) fun y10 => (0, (pm_up (pm_up V0 114 (0 : Int).toNat 1) 113 (0 : Int).toNat 1))
theorem F_X12_ones_d0_eq (V0 : pm_M) : F_X12_ones_d0 V0 = pf_let (V0 114 0) fun y1 => pf_let (V0 114 1) fun y4 => pf_let (V0 114 2) fun y7 => pf_let (V0 114 3) fun y10 => (0, (pm_up (pm_up V0 114 (0 : Int).toNat 1) 113 (0 : Int).toNat 1)) := rfl
noncomputable def F_X12_ones_d1 (V0 : pm_M) : Int × pm_M := pf_let (V0 114 0) fun y1 => pf_let (V0 114 1) fun y4 => pf_let (V0 114 2) fun y7 => pf_let (V0 114 3) fun y10 => (0, (pm_up (pm_up V0 114 (1 : Int).toNat 1) 113 (300 : Int).toNat 1))
theorem F_X12_ones_d1_eq (V0 : pm_M) : F_X12_ones_d1 V0 = pf_let (V0 114 0) fun y1 => pf_let (V0 114 1) fun y4 => pf_let (V0 114 2) fun y7 => pf_let (V0 114 3) fun y10 => (0, (pm_up (pm_up V0 114 (1 : Int).toNat 1) 113 (300 : Int).toNat 1)) := rfl
noncomputable def F_X12_multiplies_d0 (a1 : Int) (V0 : pm_M) : Int × pm_M := pf_let (V0 114 0) fun z0 => pf_let (V0 114 1) fun y1 => pf_let (V0 114 2) fun y4 => pf_let (V0 114 3) fun y7 => pf_val ((0 : Int), V0) (fun (q : Int × Int × pm_M) => match q with | (x10, x12, V15) => ((if z0 ≤ x12 then (pf_val (.inr ((0 : Int), V0)) (fun (q : Int × pm_M) => match q with | (x31, V33) => (pf_let (pm_cmp x31 0) fun y48 => (if y48 ≤ 0 then (pf_val (.inr (.inr ((0 : Int), V0))) (fun (q : pm_M) => match q with | V51 => (pf_let (V51 114 0) fun y66 => (if y66 ≤ 1 then ((.inr (.inr (.inr (0, V51))))) else (pf_let (V51 113 (((0 + y66) - 1) : Int).toNat) fun y71 => (if ¬ (y71 = 0) then ((.inr (.inr (.inr (0, V51))))) else ((.inl (pm_up V51 114 (0 : Int).toNat (y66 - 1))))))))) V33pf_let (V33 114 0) fun y75 => ) else (pf_let (V33 114 0) fun y79 => (.inl ((x31 / 10000), (pm_up (pm_up V33 113 ((0 + y79) : Int).toNat (x31 % 10000)) 114 (0 : Int).toNat (y79 + 1)))))))) (x10, V15)) else (pf_let (V15 113 ((0 + x12) : Int).toNat) fun y83 => pf_let ((y83 * a1)) fun y86 => pf_let (x12 + 1) fun x89 => (.inl (((y86 + x10) / 10000), x89, (pm_up V15 113 ((0 + x12) : Int).toNat ((y86 + x10) % 10000)))))))) (0, 0, V0)
theorem F_X12_multiplies_d0_eq (a1 : Int) (V0 : pm_M) : F_X12_multiplies_d0 a1 V0 = pf_let (V0 114 0) fun z0 => pf_let (V0 114 1) fun y1 => pf_let (V0 114 2) fun y4 => pf_let (V0 114 3) fun y7 => pf_val ((0 : Int), V0) (fun (q : Int × Int × pm_M) => match q with | (x10, x12, V15) => ((if z0 ≤ x12 then (pf_val (.inr ((0 : Int), V0)) (fun (q : Int × pm_M) => match q with | (x31, V33) => (pf_let (pm_cmp x31 0) fun y48 => (if y48 ≤ 0 then (pf_val (.inr (.inr ((0 : Int), V0))) (fun (q : pm_M) => match q with | V51 => (pf_let (V51 114 0) fun y66 => (if y66 ≤ 1 then ((.inr (.inr (.inr (0, V51))))) else (pf_let (V51 113 (((0 + y66) - 1) : Int).toNat) fun y71 => (if ¬ (y71 = 0) then ((.inr (.inr (.inr (0, V51))))) else ((.inl (pm_up V51 114 (0 : Int).toNat (y66 - 1))))))))) V33pf_let (V33 114 0) fun y75 => ) else (pf_let (V33 114 0) fun y79 => (.inl ((x31 / 10000), (pm_up (pm_up V33 113 ((0 + y79) : Int).toNat (x31 % 10000)) 114 (0 : Int).toNat (y79 + 1)))))))) (x10, V15)) else (pf_let (V15 113 ((0 + x12) : Int).toNat) fun y83 => pf_let ((y83 * a1)) fun y86 => pf_let (x12 + 1) fun x89 => (.inl (((y86 + x10) / 10000), x89, (pm_up V15 113 ((0 + x12) : Int).toNat ((y86 + x10) % 10000)))))))) (0, 0, V0) := rfl
noncomputable def F_X12_multiplies_d1 (a1 : Int) (V0 : pm_M) : Int × pm_M := pf_let (V0 114 1) fun z0 => pf_let (V0 114 0) fun y1 => pf_let (V0 114 2) fun y4 => pf_let (V0 114 3) fun y7 => pf_val ((0 : Int), V0) (fun (q : Int × Int × pm_M) => match q with | (x10, x12, V15) => ((if z0 ≤ x12 then (pf_val (.inr ((0 : Int), V0)) (fun (q : Int × pm_M) => match q with | (x31, V33) => (pf_let (pm_cmp x31 0) fun y48 => (if y48 ≤ 0 then (pf_val (.inr (.inr ((0 : Int), V0))) (fun (q : pm_M) => match q with | V51 => (pf_let (V51 114 1) fun y66 => (if y66 ≤ 1 then ((.inr (.inr (.inr (0, V51))))) else (pf_let (V51 113 (((300 + y66) - 1) : Int).toNat) fun y71 => (if ¬ (y71 = 0) then ((.inr (.inr (.inr (0, V51))))) else ((.inl (pm_up V51 114 (1 : Int).toNat (y66 - 1))))))))) V33pf_let (V33 114 1) fun y75 => ) else (pf_let (V33 114 1) fun y79 => (.inl ((x31 / 10000), (pm_up (pm_up V33 113 ((300 + y79) : Int).toNat (x31 % 10000)) 114 (1 : Int).toNat (y79 + 1)))))))) (x10, V15)) else (pf_let (V15 113 ((300 + x12) : Int).toNat) fun y83 => pf_let ((y83 * a1)) fun y86 => pf_let (x12 + 1) fun x89 => (.inl (((y86 + x10) / 10000), x89, (pm_up V15 113 ((300 + x12) : Int).toNat ((y86 + x10) % 10000)))))))) (0, 0, V0)
theorem F_X12_multiplies_d1_eq (a1 : Int) (V0 : pm_M) : F_X12_multiplies_d1 a1 V0 = pf_let (V0 114 1) fun z0 => pf_let (V0 114 0) fun y1 => pf_let (V0 114 2) fun y4 => pf_let (V0 114 3) fun y7 => pf_val ((0 : Int), V0) (fun (q : Int × Int × pm_M) => match q with | (x10, x12, V15) => ((if z0 ≤ x12 then (pf_val (.inr ((0 : Int), V0)) (fun (q : Int × pm_M) => match q with | (x31, V33) => (pf_let (pm_cmp x31 0) fun y48 => (if y48 ≤ 0 then (pf_val (.inr (.inr ((0 : Int), V0))) (fun (q : pm_M) => match q with | V51 => (pf_let (V51 114 1) fun y66 => (if y66 ≤ 1 then ((.inr (.inr (.inr (0, V51))))) else (pf_let (V51 113 (((300 + y66) - 1) : Int).toNat) fun y71 => (if ¬ (y71 = 0) then ((.inr (.inr (.inr (0, V51))))) else ((.inl (pm_up V51 114 (1 : Int).toNat (y66 - 1))))))))) V33pf_let (V33 114 1) fun y75 => ) else (pf_let (V33 114 1) fun y79 => (.inl ((x31 / 10000), (pm_up (pm_up V33 113 ((300 + y79) : Int).toNat (x31 % 10000)) 114 (1 : Int).toNat (y79 + 1)))))))) (x10, V15)) else (pf_let (V15 113 ((300 + x12) : Int).toNat) fun y83 => pf_let ((y83 * a1)) fun y86 => pf_let (x12 + 1) fun x89 => (.inl (((y86 + x10) / 10000), x89, (pm_up V15 113 ((300 + x12) : Int).toNat ((y86 + x10) % 10000)))))))) (0, 0, V0) := rfl
noncomputable def F_X12_fits_d0 (a1 a2 : Int) (V0 : pm_M) : Int × pm_M := pf_let (V0 114 0) fun y1 => pf_let (V0 114 1) fun y4 => pf_let (V0 114 2) fun y7 => pf_let (V0 114 3) fun y10 => pf_call (F_X12_ones_d0  V0) fun _ V14 => pf_let (V14 114 0) fun y27 => pf_let (V14 114 1) fun y30 => pf_let (V14 114 2) fun y33 => pf_let (V14 114 3) fun y36 => pf_call (F_X12_ones_d1  V14) fun _ V40 => pf_let (V40 114 0) fun y53 => pf_let (V40 114 1) fun y56 => pf_let (V40 114 2) fun y59 => pf_let (V40 114 3) fun y62 => pf_val ((0 : Int), V0) (fun (q : Int × pm_M) => match q with | (x65, V67) => (pf_let (V67 90 25) fun y84 => (if y84 ≤ x65 then ((.inr (0, V67))pf_let (V67 114 0) fun y88 => pf_let (V67 114 1) fun y91 => ) else ((if a2 = (-1) then (pf_call (F_X12_worksAnswer x65 V67) fun _ V96 => pf_let (V96 90 42) fun z112 => pf_let (V96 90 43) fun z114 => pf_call (F_X12_weighs a1 V96) fun _ V117 => pf_let (V117 101 (((5 * x65) + 3) : Int).toNat) fun y138 => pf_let (V117 112 (y138 : Int).toNat) fun y141 => pf_let (V117 114 0) fun y144 => pf_let (V117 114 1) fun y147 => pf_call (F_X12_multiplies_d0 y141 V117) fun _ V151 => pf_let (V151 114 0) fun y173 => pf_let (V151 114 1) fun y176 => pf_let (V151 114 2) fun y179 => pf_let (V151 114 3) fun y182 => pf_let (V151 90 51) fun y185 => pf_call (F_X12_multiplies_d1 y185 V151) fun _ V189 => pf_let (V189 114 0) fun y212 => pf_let (V189 114 1) fun y215 => pf_let (V189 114 2) fun y218 => pf_let (V189 114 3) fun y221 => pf_let (x65 + 1) fun x224 => (.inl (x224, V189))) else (pf_let (V67 101 ((5 * x65) : Int).toNat) fun y227 => (if (y227 / 100) = a2 then (pf_call (F_X12_worksAnswer x65 V67) fun _ V232 => pf_let (V232 90 42) fun z249 => pf_let (V232 90 43) fun z251 => pf_call (F_X12_weighs a1 V232) fun _ V254 => pf_let (V254 101 (((5 * x65) + 3) : Int).toNat) fun y275 => pf_let (V254 112 (y275 : Int).toNat) fun y278 => pf_let (V254 114 0) fun y281 => pf_let (V254 114 1) fun y284 => pf_call (F_X12_multiplies_d0 y278 V254) fun _ V288 => pf_let (V288 114 0) fun y310 => pf_let (V288 114 1) fun y313 => pf_let (V288 114 2) fun y316 => pf_let (V288 114 3) fun y319 => pf_let (V288 90 51) fun y322 => pf_call (F_X12_multiplies_d1 y322 V288) fun _ V326 => pf_let (V326 114 0) fun y349 => pf_let (V326 114 1) fun y352 => pf_let (V326 114 2) fun y355 => pf_let (V326 114 3) fun y358 => pf_let (x65 + 1) fun x361 => (.inl (x361, V326))) else (pf_let (x65 + 1) fun x363 => (.inl (x363, V67))pf_let (V67 114 0) fun y365 => pf_let (V67 114 1) fun y368 => )))))))) (0, V40)
theorem F_X12_fits_d0_eq (a1 a2 : Int) (V0 : pm_M) : F_X12_fits_d0 a1 a2 V0 = pf_let (V0 114 0) fun y1 => pf_let (V0 114 1) fun y4 => pf_let (V0 114 2) fun y7 => pf_let (V0 114 3) fun y10 => pf_call (F_X12_ones_d0  V0) fun _ V14 => pf_let (V14 114 0) fun y27 => pf_let (V14 114 1) fun y30 => pf_let (V14 114 2) fun y33 => pf_let (V14 114 3) fun y36 => pf_call (F_X12_ones_d1  V14) fun _ V40 => pf_let (V40 114 0) fun y53 => pf_let (V40 114 1) fun y56 => pf_let (V40 114 2) fun y59 => pf_let (V40 114 3) fun y62 => pf_val ((0 : Int), V0) (fun (q : Int × pm_M) => match q with | (x65, V67) => (pf_let (V67 90 25) fun y84 => (if y84 ≤ x65 then ((.inr (0, V67))pf_let (V67 114 0) fun y88 => pf_let (V67 114 1) fun y91 => ) else ((if a2 = (-1) then (pf_call (F_X12_worksAnswer x65 V67) fun _ V96 => pf_let (V96 90 42) fun z112 => pf_let (V96 90 43) fun z114 => pf_call (F_X12_weighs a1 V96) fun _ V117 => pf_let (V117 101 (((5 * x65) + 3) : Int).toNat) fun y138 => pf_let (V117 112 (y138 : Int).toNat) fun y141 => pf_let (V117 114 0) fun y144 => pf_let (V117 114 1) fun y147 => pf_call (F_X12_multiplies_d0 y141 V117) fun _ V151 => pf_let (V151 114 0) fun y173 => pf_let (V151 114 1) fun y176 => pf_let (V151 114 2) fun y179 => pf_let (V151 114 3) fun y182 => pf_let (V151 90 51) fun y185 => pf_call (F_X12_multiplies_d1 y185 V151) fun _ V189 => pf_let (V189 114 0) fun y212 => pf_let (V189 114 1) fun y215 => pf_let (V189 114 2) fun y218 => pf_let (V189 114 3) fun y221 => pf_let (x65 + 1) fun x224 => (.inl (x224, V189))) else (pf_let (V67 101 ((5 * x65) : Int).toNat) fun y227 => (if (y227 / 100) = a2 then (pf_call (F_X12_worksAnswer x65 V67) fun _ V232 => pf_let (V232 90 42) fun z249 => pf_let (V232 90 43) fun z251 => pf_call (F_X12_weighs a1 V232) fun _ V254 => pf_let (V254 101 (((5 * x65) + 3) : Int).toNat) fun y275 => pf_let (V254 112 (y275 : Int).toNat) fun y278 => pf_let (V254 114 0) fun y281 => pf_let (V254 114 1) fun y284 => pf_call (F_X12_multiplies_d0 y278 V254) fun _ V288 => pf_let (V288 114 0) fun y310 => pf_let (V288 114 1) fun y313 => pf_let (V288 114 2) fun y316 => pf_let (V288 114 3) fun y319 => pf_let (V288 90 51) fun y322 => pf_call (F_X12_multiplies_d1 y322 V288) fun _ V326 => pf_let (V326 114 0) fun y349 => pf_let (V326 114 1) fun y352 => pf_let (V326 114 2) fun y355 => pf_let (V326 114 3) fun y358 => pf_let (x65 + 1) fun x361 => (.inl (x361, V326))) else (pf_let (x65 + 1) fun x363 => (.inl (x363, V67))pf_let (V67 114 0) fun y365 => pf_let (V67 114 1) fun y368 => )))))))) (0, V40) := rfl
noncomputable def F_X12_more (a1 a2 a3 : Int) (V0 : pm_M) : Int × pm_M := pf_call (F_X12_isLaw a1 V0) fun y6 _ => (if y6 = 0 then (((-1), V0)) else (pf_call (F_X12_isLaw a2 V0) fun y13 _ => (if y13 = 0 then (((-1), V0)) else ((if a3 = (-1) then (pf_let (V0 114 0) fun y18 => pf_let (V0 114 1) fun y21 => pf_let (V0 114 2) fun y24 => pf_let (V0 114 3) fun y27 => pf_call (F_X12_fits_d0 a2 a3 V0) fun _ V31 => pf_let (V31 114 0) fun y45 => pf_let (V31 114 1) fun y48 => pf_let (V31 114 2) fun y51 => pf_let (V31 114 3) fun y54 => pf_call (F_X12_keeps  V31) fun _ V58 => pf_let (V58 114 0) fun y72 => pf_let (V58 114 1) fun y75 => pf_let (V58 114 2) fun y78 => pf_let (V58 114 3) fun y81 => pf_call (F_X12_fits_d0 a1 a3 V58) fun _ V85 => pf_let (V85 114 0) fun y99 => pf_let (V85 114 1) fun y102 => pf_let (V85 114 2) fun y105 => pf_let (V85 114 3) fun y108 => pf_call (F_X12_against  V85) fun y118 V112 => pf_let (V112 114 0) fun y132 => pf_let (V112 114 1) fun y135 => pf_let (V112 114 2) fun y138 => pf_let (V112 114 3) fun y141 => (if y118 ≤ 0 then ((if 0 ≤ y118 then ((0, V112)) else ((2, V112)))) else ((1, V112)))) else (pf_call (F_X12_isPerson a3 V0) fun y149 _ => (if ¬ (y149 = 0) then (pf_let (V0 114 0) fun y153 => pf_let (V0 114 1) fun y156 => pf_let (V0 114 2) fun y159 => pf_let (V0 114 3) fun y162 => pf_call (F_X12_fits_d0 a2 a3 V0) fun _ V166 => pf_let (V166 114 0) fun y180 => pf_let (V166 114 1) fun y183 => pf_let (V166 114 2) fun y186 => pf_let (V166 114 3) fun y189 => pf_call (F_X12_keeps  V166) fun _ V193 => pf_let (V193 114 0) fun y207 => pf_let (V193 114 1) fun y210 => pf_let (V193 114 2) fun y213 => pf_let (V193 114 3) fun y216 => pf_call (F_X12_fits_d0 a1 a3 V193) fun _ V220 => pf_let (V220 114 0) fun y234 => pf_let (V220 114 1) fun y237 => pf_let (V220 114 2) fun y240 => pf_let (V220 114 3) fun y243 => pf_call (F_X12_against  V220) fun y253 V247 => pf_let (V247 114 0) fun y267 => pf_let (V247 114 1) fun y270 => pf_let (V247 114 2) fun y273 => pf_let (V247 114 3) fun y276 => (if y253 ≤ 0 then ((if 0 ≤ y253 then ((0, V247)) else ((2, V247)))) else ((1, V247)))) else (((-1), V0)))))))))
theorem F_X12_more_eq (a1 a2 a3 : Int) (V0 : pm_M) : F_X12_more a1 a2 a3 V0 = pf_call (F_X12_isLaw a1 V0) fun y6 _ => (if y6 = 0 then (((-1), V0)) else (pf_call (F_X12_isLaw a2 V0) fun y13 _ => (if y13 = 0 then (((-1), V0)) else ((if a3 = (-1) then (pf_let (V0 114 0) fun y18 => pf_let (V0 114 1) fun y21 => pf_let (V0 114 2) fun y24 => pf_let (V0 114 3) fun y27 => pf_call (F_X12_fits_d0 a2 a3 V0) fun _ V31 => pf_let (V31 114 0) fun y45 => pf_let (V31 114 1) fun y48 => pf_let (V31 114 2) fun y51 => pf_let (V31 114 3) fun y54 => pf_call (F_X12_keeps  V31) fun _ V58 => pf_let (V58 114 0) fun y72 => pf_let (V58 114 1) fun y75 => pf_let (V58 114 2) fun y78 => pf_let (V58 114 3) fun y81 => pf_call (F_X12_fits_d0 a1 a3 V58) fun _ V85 => pf_let (V85 114 0) fun y99 => pf_let (V85 114 1) fun y102 => pf_let (V85 114 2) fun y105 => pf_let (V85 114 3) fun y108 => pf_call (F_X12_against  V85) fun y118 V112 => pf_let (V112 114 0) fun y132 => pf_let (V112 114 1) fun y135 => pf_let (V112 114 2) fun y138 => pf_let (V112 114 3) fun y141 => (if y118 ≤ 0 then ((if 0 ≤ y118 then ((0, V112)) else ((2, V112)))) else ((1, V112)))) else (pf_call (F_X12_isPerson a3 V0) fun y149 _ => (if ¬ (y149 = 0) then (pf_let (V0 114 0) fun y153 => pf_let (V0 114 1) fun y156 => pf_let (V0 114 2) fun y159 => pf_let (V0 114 3) fun y162 => pf_call (F_X12_fits_d0 a2 a3 V0) fun _ V166 => pf_let (V166 114 0) fun y180 => pf_let (V166 114 1) fun y183 => pf_let (V166 114 2) fun y186 => pf_let (V166 114 3) fun y189 => pf_call (F_X12_keeps  V166) fun _ V193 => pf_let (V193 114 0) fun y207 => pf_let (V193 114 1) fun y210 => pf_let (V193 114 2) fun y213 => pf_let (V193 114 3) fun y216 => pf_call (F_X12_fits_d0 a1 a3 V193) fun _ V220 => pf_let (V220 114 0) fun y234 => pf_let (V220 114 1) fun y237 => pf_let (V220 114 2) fun y240 => pf_let (V220 114 3) fun y243 => pf_call (F_X12_against  V220) fun y253 V247 => pf_let (V247 114 0) fun y267 => pf_let (V247 114 1) fun y270 => pf_let (V247 114 2) fun y273 => pf_let (V247 114 3) fun y276 => (if y253 ≤ 0 then ((if 0 ≤ y253 then ((0, V247)) else ((2, V247)))) else ((1, V247)))) else (((-1), V0))))))))) := rfl
noncomputable def F_X12_best (a1 : Int) (V0 : pm_M) : Int × pm_M := (if a1 = (-1) then (pf_val ((0 : Int), V0) (fun (q : Int × Int × pm_M) => match q with | (x4, x6, V8) => ((if 7 ≤ x6 then ((.inr (x4, V8))) else (pf_let (V8 114 0) fun y25 => pf_let (V8 114 1) fun y28 => pf_let (V8 114 2) fun y31 => pf_let (V8 114 3) fun y34 => pf_call (F_X12_fits_d0 x6 a1 V8) fun _ V38 => pf_let (V38 114 0) fun y52 => pf_let (V38 114 1) fun y55 => pf_let (V38 114 2) fun y58 => pf_let (V38 114 3) fun y61 => (if x4 = (-1) then (pf_call (F_X12_keeps  V38) fun _ V66 => pf_let (V66 114 0) fun y80 => pf_let (V66 114 1) fun y83 => pf_let (V66 114 2) fun y86 => pf_let (V66 114 3) fun y89 => pf_let (x6 + 1) fun x92 => (.inl (x6, x92, V66))) else (pf_call (F_X12_against  V38) fun y101 V95 => pf_let (V95 114 0) fun y115 => pf_let (V95 114 1) fun y118 => pf_let (V95 114 2) fun y121 => pf_let (V95 114 3) fun y124 => (if 0 < y101 then (pf_call (F_X12_keeps  V95) fun _ V129 => pf_let (V129 114 0) fun y143 => pf_let (V129 114 1) fun y146 => pf_let (V129 114 2) fun y149 => pf_let (V129 114 3) fun y152 => pf_let (x6 + 1) fun x155 => (.inl (x6, x155, V129))) else (pf_let (x6 + 1) fun x157 => (.inl (x4, x157, V95)))))))))) ((-1), 0, V0)pf_let (V0 114 2) fun y159 => pf_let (V0 114 3) fun y162 => ) else (pf_call (F_X12_isPerson a1 V0) fun y168 _ => (if ¬ (y168 = 0) then (pf_val ((0 : Int), V0) (fun (q : Int × Int × pm_M) => match q with | (x172, x174, V176) => ((if 7 ≤ x174 then ((.inr (x172, V176))) else (pf_let (V176 114 0) fun y193 => pf_let (V176 114 1) fun y196 => pf_let (V176 114 2) fun y199 => pf_let (V176 114 3) fun y202 => pf_call (F_X12_fits_d0 x174 a1 V176) fun _ V206 => pf_let (V206 114 0) fun y220 => pf_let (V206 114 1) fun y223 => pf_let (V206 114 2) fun y226 => pf_let (V206 114 3) fun y229 => (if x172 = (-1) then (pf_call (F_X12_keeps  V206) fun _ V234 => pf_let (V234 114 0) fun y248 => pf_let (V234 114 1) fun y251 => pf_let (V234 114 2) fun y254 => pf_let (V234 114 3) fun y257 => pf_let (x174 + 1) fun x260 => (.inl (x174, x260, V234))) else (pf_call (F_X12_against  V206) fun y269 V263 => pf_let (V263 114 0) fun y283 => pf_let (V263 114 1) fun y286 => pf_let (V263 114 2) fun y289 => pf_let (V263 114 3) fun y292 => (if 0 < y269 then (pf_call (F_X12_keeps  V263) fun _ V297 => pf_let (V297 114 0) fun y311 => pf_let (V297 114 1) fun y314 => pf_let (V297 114 2) fun y317 => pf_let (V297 114 3) fun y320 => pf_let (x174 + 1) fun x323 => (.inl (x174, x323, V297))) else (pf_let (x174 + 1) fun x325 => (.inl (x172, x325, V263)))))))))) ((-1), 0, V0)pf_let (V0 114 2) fun y327 => pf_let (V0 114 3) fun y330 => ) else (((-1), V0)))))
theorem F_X12_best_eq (a1 : Int) (V0 : pm_M) : F_X12_best a1 V0 = (if a1 = (-1) then (pf_val ((0 : Int), V0) (fun (q : Int × Int × pm_M) => match q with | (x4, x6, V8) => ((if 7 ≤ x6 then ((.inr (x4, V8))) else (pf_let (V8 114 0) fun y25 => pf_let (V8 114 1) fun y28 => pf_let (V8 114 2) fun y31 => pf_let (V8 114 3) fun y34 => pf_call (F_X12_fits_d0 x6 a1 V8) fun _ V38 => pf_let (V38 114 0) fun y52 => pf_let (V38 114 1) fun y55 => pf_let (V38 114 2) fun y58 => pf_let (V38 114 3) fun y61 => (if x4 = (-1) then (pf_call (F_X12_keeps  V38) fun _ V66 => pf_let (V66 114 0) fun y80 => pf_let (V66 114 1) fun y83 => pf_let (V66 114 2) fun y86 => pf_let (V66 114 3) fun y89 => pf_let (x6 + 1) fun x92 => (.inl (x6, x92, V66))) else (pf_call (F_X12_against  V38) fun y101 V95 => pf_let (V95 114 0) fun y115 => pf_let (V95 114 1) fun y118 => pf_let (V95 114 2) fun y121 => pf_let (V95 114 3) fun y124 => (if 0 < y101 then (pf_call (F_X12_keeps  V95) fun _ V129 => pf_let (V129 114 0) fun y143 => pf_let (V129 114 1) fun y146 => pf_let (V129 114 2) fun y149 => pf_let (V129 114 3) fun y152 => pf_let (x6 + 1) fun x155 => (.inl (x6, x155, V129))) else (pf_let (x6 + 1) fun x157 => (.inl (x4, x157, V95)))))))))) ((-1), 0, V0)pf_let (V0 114 2) fun y159 => pf_let (V0 114 3) fun y162 => ) else (pf_call (F_X12_isPerson a1 V0) fun y168 _ => (if ¬ (y168 = 0) then (pf_val ((0 : Int), V0) (fun (q : Int × Int × pm_M) => match q with | (x172, x174, V176) => ((if 7 ≤ x174 then ((.inr (x172, V176))) else (pf_let (V176 114 0) fun y193 => pf_let (V176 114 1) fun y196 => pf_let (V176 114 2) fun y199 => pf_let (V176 114 3) fun y202 => pf_call (F_X12_fits_d0 x174 a1 V176) fun _ V206 => pf_let (V206 114 0) fun y220 => pf_let (V206 114 1) fun y223 => pf_let (V206 114 2) fun y226 => pf_let (V206 114 3) fun y229 => (if x172 = (-1) then (pf_call (F_X12_keeps  V206) fun _ V234 => pf_let (V234 114 0) fun y248 => pf_let (V234 114 1) fun y251 => pf_let (V234 114 2) fun y254 => pf_let (V234 114 3) fun y257 => pf_let (x174 + 1) fun x260 => (.inl (x174, x260, V234))) else (pf_call (F_X12_against  V206) fun y269 V263 => pf_let (V263 114 0) fun y283 => pf_let (V263 114 1) fun y286 => pf_let (V263 114 2) fun y289 => pf_let (V263 114 3) fun y292 => (if 0 < y269 then (pf_call (F_X12_keeps  V263) fun _ V297 => pf_let (V297 114 0) fun y311 => pf_let (V297 114 1) fun y314 => pf_let (V297 114 2) fun y317 => pf_let (V297 114 3) fun y320 => pf_let (x174 + 1) fun x323 => (.inl (x174, x323, V297))) else (pf_let (x174 + 1) fun x325 => (.inl (x172, x325, V263)))))))))) ((-1), 0, V0)pf_let (V0 114 2) fun y327 => pf_let (V0 114 3) fun y330 => ) else (((-1), V0))))) := rfl
noncomputable def F_X12_own (a1 a2 : Int) (V0 : pm_M) : Int × pm_M := pf_call (F_X12_isPerson a1 V0) fun y4 _ => (if y4 = 0 then (((-2147483648), V0)) else (pf_call (F_X12_in a2 0 2 V0) fun y11 _ => (if ¬ (y11 = 0) then (pf_let (V0 100 ((4 * a1) : Int).toNat) fun y16 => pf_let (V0 100 (((4 * a1) + 1) : Int).toNat) fun y19 => pf_let (V0 100 (((4 * a1) + 2) : Int).toNat) fun y22 => (if ¬ (a2 = 2) then (pf_val ((0 : Int), V0) (fun (q : Int × Int × Int × pm_M) => match q with | (x26, x28, x30, V33) => ((if 12 < x30 then ((if ¬ (a2 = 0) then ((.inr (x28, (pm_up (pm_up V33 100 ((4 * a1) : Int).toNat y16) 100 (((4 * a1) + 1) : Int).toNat y19)))) else ((.inr (x26, (pm_up (pm_up V33 100 ((4 * a1) : Int).toNat y16) 100 (((4 * a1) + 1) : Int).toNat y19)))))) else (pf_val (.inr ((0 : Int), V0)) (fun (q : Int × Int × Int × pm_M) => match q with | (x51, x53, x55, V58) => ((if 12 < x55 then (pf_let (x30 + 1) fun x75 => (.inr (.inl (x51, x53, x75, V58)))pf_let (V58 114 2) fun y77 => pf_let (V58 114 3) fun y80 => ) else (pf_let ((pm_up (pm_up V58 100 ((4 * a1) : Int).toNat x30) 100 (((4 * a1) + 1) : Int).toNat x55)) fun V83 => pf_let (V83 114 0) fun y91 => pf_let (V83 114 1) fun y94 => pf_let (V83 114 2) fun y97 => pf_let (V83 114 3) fun y100 => pf_call (F_X12_fits_d0 4 a1 V83) fun _ V104 => pf_let (V104 114 0) fun y118 => pf_let (V104 114 1) fun y121 => pf_let (V104 114 2) fun y124 => pf_let (V104 114 3) fun y127 => (if ¬ (x51 = (-2147483648)) then (pf_call (F_X12_against  V104) fun y138 V132 => pf_let (V132 114 0) fun y152 => pf_let (V132 114 1) fun y155 => pf_let (V132 114 2) fun y158 => pf_let (V132 114 3) fun y161 => (if y138 < 0 then (pf_let (x55 + 1) fun x165 => (.inl (x51, x53, x165, V132))) else ((if ¬ (y138 = 0) then (pf_call (F_X12_keeps  V132) fun _ V169 => pf_let (V169 114 0) fun y183 => pf_let (V169 114 1) fun y186 => pf_let (V169 114 2) fun y189 => pf_let (V169 114 3) fun y192 => pf_let (x55 + 1) fun x195 => (.inl (x30, x55, x195, V169))) else (pf_call (F_X12_far x30 V132) fun y200 _ => pf_call (F_X12_far x55 V132) fun y206 _ => pf_call (F_X12_far x51 V132) fun y212 _ => pf_call (F_X12_far x53 V132) fun y218 _ => pf_let (pm_w32 (y212 + y218)) fun y221 => (if (y200 + y206) < y221 then (pf_call (F_X12_keeps  V132) fun _ V226 => pf_let (V226 114 0) fun y240 => pf_let (V226 114 1) fun y243 => pf_let (V226 114 2) fun y246 => pf_let (V226 114 3) fun y249 => pf_let (x55 + 1) fun x252 => (.inl (x30, x55, x252, V226))) else (pf_let (x55 + 1) fun x254 => (.inl (x51, x53, x254, V132))))))))) else (pf_call (F_X12_keeps  V104) fun _ V259 => pf_let (V259 114 0) fun y273 => pf_let (V259 114 1) fun y276 => pf_let (V259 114 2) fun y279 => pf_let (V259 114 3) fun y282 => pf_let (x55 + 1) fun x285 => (.inl (x30, x55, x285, V259)))))))) (x26, x28, (-12), V33)pf_let (V33 114 2) fun y287 => pf_let (V33 114 3) fun y290 => )))) ((-2147483648), 0, (-12), V0)pf_let (V0 114 2) fun y293 => pf_let (V0 114 3) fun y296 => ) else (pf_val ((0 : Int), V0) (fun (q : Int × Int × pm_M) => match q with | (x299, x301, V304) => ((if 16 < x301 then ((.inr (x299, (pm_up V304 100 (((4 * a1) + 2) : Int).toNat y22)))) else (pf_let ((pm_up V304 100 (((4 * a1) + 2) : Int).toNat x301)) fun V321 => pf_let (V321 114 0) fun y329 => pf_let (V321 114 1) fun y332 => pf_let (V321 114 2) fun y335 => pf_let (V321 114 3) fun y338 => pf_call (F_X12_fits_d0 4 a1 V321) fun _ V342 => pf_let (V342 114 0) fun y356 => pf_let (V342 114 1) fun y359 => pf_let (V342 114 2) fun y362 => pf_let (V342 114 3) fun y365 => (if x299 = (-2147483648) then (pf_call (F_X12_keeps  V342) fun _ V370 => pf_let (V370 114 0) fun y384 => pf_let (V370 114 1) fun y387 => pf_let (V370 114 2) fun y390 => pf_let (V370 114 3) fun y393 => pf_let (x301 + 1) fun x396 => (.inl (x301, x396, V370))) else (pf_call (F_X12_against  V342) fun y405 V399 => pf_let (V399 114 0) fun y419 => pf_let (V399 114 1) fun y422 => pf_let (V399 114 2) fun y425 => pf_let (V399 114 3) fun y428 => (if 0 < y405 then (pf_call (F_X12_keeps  V399) fun _ V433 => pf_let (V433 114 0) fun y447 => pf_let (V433 114 1) fun y450 => pf_let (V433 114 2) fun y453 => pf_let (V433 114 3) fun y456 => pf_let (x301 + 1) fun x459 => (.inl (x301, x459, V433))) else (pf_let (x301 + 1) fun x461 => (.inl (x299, x461, V399)))))))))) ((-2147483648), 0, V0)pf_let (V0 114 2) fun y463 => pf_let (V0 114 3) fun y466 => ))) else (((-2147483648), V0)))))
theorem F_X12_own_eq (a1 a2 : Int) (V0 : pm_M) : F_X12_own a1 a2 V0 = pf_call (F_X12_isPerson a1 V0) fun y4 _ => (if y4 = 0 then (((-2147483648), V0)) else (pf_call (F_X12_in a2 0 2 V0) fun y11 _ => (if ¬ (y11 = 0) then (pf_let (V0 100 ((4 * a1) : Int).toNat) fun y16 => pf_let (V0 100 (((4 * a1) + 1) : Int).toNat) fun y19 => pf_let (V0 100 (((4 * a1) + 2) : Int).toNat) fun y22 => (if ¬ (a2 = 2) then (pf_val ((0 : Int), V0) (fun (q : Int × Int × Int × pm_M) => match q with | (x26, x28, x30, V33) => ((if 12 < x30 then ((if ¬ (a2 = 0) then ((.inr (x28, (pm_up (pm_up V33 100 ((4 * a1) : Int).toNat y16) 100 (((4 * a1) + 1) : Int).toNat y19)))) else ((.inr (x26, (pm_up (pm_up V33 100 ((4 * a1) : Int).toNat y16) 100 (((4 * a1) + 1) : Int).toNat y19)))))) else (pf_val (.inr ((0 : Int), V0)) (fun (q : Int × Int × Int × pm_M) => match q with | (x51, x53, x55, V58) => ((if 12 < x55 then (pf_let (x30 + 1) fun x75 => (.inr (.inl (x51, x53, x75, V58)))pf_let (V58 114 2) fun y77 => pf_let (V58 114 3) fun y80 => ) else (pf_let ((pm_up (pm_up V58 100 ((4 * a1) : Int).toNat x30) 100 (((4 * a1) + 1) : Int).toNat x55)) fun V83 => pf_let (V83 114 0) fun y91 => pf_let (V83 114 1) fun y94 => pf_let (V83 114 2) fun y97 => pf_let (V83 114 3) fun y100 => pf_call (F_X12_fits_d0 4 a1 V83) fun _ V104 => pf_let (V104 114 0) fun y118 => pf_let (V104 114 1) fun y121 => pf_let (V104 114 2) fun y124 => pf_let (V104 114 3) fun y127 => (if ¬ (x51 = (-2147483648)) then (pf_call (F_X12_against  V104) fun y138 V132 => pf_let (V132 114 0) fun y152 => pf_let (V132 114 1) fun y155 => pf_let (V132 114 2) fun y158 => pf_let (V132 114 3) fun y161 => (if y138 < 0 then (pf_let (x55 + 1) fun x165 => (.inl (x51, x53, x165, V132))) else ((if ¬ (y138 = 0) then (pf_call (F_X12_keeps  V132) fun _ V169 => pf_let (V169 114 0) fun y183 => pf_let (V169 114 1) fun y186 => pf_let (V169 114 2) fun y189 => pf_let (V169 114 3) fun y192 => pf_let (x55 + 1) fun x195 => (.inl (x30, x55, x195, V169))) else (pf_call (F_X12_far x30 V132) fun y200 _ => pf_call (F_X12_far x55 V132) fun y206 _ => pf_call (F_X12_far x51 V132) fun y212 _ => pf_call (F_X12_far x53 V132) fun y218 _ => pf_let (pm_w32 (y212 + y218)) fun y221 => (if (y200 + y206) < y221 then (pf_call (F_X12_keeps  V132) fun _ V226 => pf_let (V226 114 0) fun y240 => pf_let (V226 114 1) fun y243 => pf_let (V226 114 2) fun y246 => pf_let (V226 114 3) fun y249 => pf_let (x55 + 1) fun x252 => (.inl (x30, x55, x252, V226))) else (pf_let (x55 + 1) fun x254 => (.inl (x51, x53, x254, V132))))))))) else (pf_call (F_X12_keeps  V104) fun _ V259 => pf_let (V259 114 0) fun y273 => pf_let (V259 114 1) fun y276 => pf_let (V259 114 2) fun y279 => pf_let (V259 114 3) fun y282 => pf_let (x55 + 1) fun x285 => (.inl (x30, x55, x285, V259)))))))) (x26, x28, (-12), V33)pf_let (V33 114 2) fun y287 => pf_let (V33 114 3) fun y290 => )))) ((-2147483648), 0, (-12), V0)pf_let (V0 114 2) fun y293 => pf_let (V0 114 3) fun y296 => ) else (pf_val ((0 : Int), V0) (fun (q : Int × Int × pm_M) => match q with | (x299, x301, V304) => ((if 16 < x301 then ((.inr (x299, (pm_up V304 100 (((4 * a1) + 2) : Int).toNat y22)))) else (pf_let ((pm_up V304 100 (((4 * a1) + 2) : Int).toNat x301)) fun V321 => pf_let (V321 114 0) fun y329 => pf_let (V321 114 1) fun y332 => pf_let (V321 114 2) fun y335 => pf_let (V321 114 3) fun y338 => pf_call (F_X12_fits_d0 4 a1 V321) fun _ V342 => pf_let (V342 114 0) fun y356 => pf_let (V342 114 1) fun y359 => pf_let (V342 114 2) fun y362 => pf_let (V342 114 3) fun y365 => (if x299 = (-2147483648) then (pf_call (F_X12_keeps  V342) fun _ V370 => pf_let (V370 114 0) fun y384 => pf_let (V370 114 1) fun y387 => pf_let (V370 114 2) fun y390 => pf_let (V370 114 3) fun y393 => pf_let (x301 + 1) fun x396 => (.inl (x301, x396, V370))) else (pf_call (F_X12_against  V342) fun y405 V399 => pf_let (V399 114 0) fun y419 => pf_let (V399 114 1) fun y422 => pf_let (V399 114 2) fun y425 => pf_let (V399 114 3) fun y428 => (if 0 < y405 then (pf_call (F_X12_keeps  V399) fun _ V433 => pf_let (V433 114 0) fun y447 => pf_let (V433 114 1) fun y450 => pf_let (V433 114 2) fun y453 => pf_let (V433 114 3) fun y456 => pf_let (x301 + 1) fun x459 => (.inl (x301, x459, V433))) else (pf_let (x301 + 1) fun x461 => (.inl (x299, x461, V399)))))))))) ((-2147483648), 0, V0)pf_let (V0 114 2) fun y463 => pf_let (V0 114 3) fun y466 => ))) else (((-2147483648), V0))))) := rfl
set_option maxHeartbeats 4000000 in
set_option maxRecDepth 100000 in
theorem fB_X12_ones_d0  : pm_K 1 yX12_ones cX12_ones 2 none (fun av V => av = [(3, 90), (0, 0)] ∧ pm_oq pm_qB V) (fun _ V r V' => r = none ∧ pm_oq pm_qB V' ∧ pm_fs [113, 114] [] V V' ∧ (V' 114 0 = 1) ∧ (V' 114 1 = V 114 1) ∧ (V' 114 2 = V 114 2) ∧ (V' 114 3 = V 114 3) ∧ F_X12_ones_d0  V = (0, V')) := by
  refine pm_MT.of (by decide) ⟨Nat.le_refl _, by decide⟩ (fun av V h => by rw [h.1]; exact (by decide : pm_words [(3, 0), (0, 0)] ≤ 2)) ?_
  rintro X av V0 hC - hR ⟨rfl, hV0⟩
  change pm_J X 0 [(0, (3, 90)), (1, (0, 0))] [] 118 V0
  have hT := F_X12_ones_d0_eq  V0
  obtain ⟨y1, e2⟩ : ∃ y, V0 114 0 = y := ⟨_, rfl⟩
  have b3 := hV0.get 114 0 (lo := 0) (hi := 600) (by decide) (by decide) rfl
  rw [e2] at b3
  replace hT := hT.trans (pf_let_eq e2)
  obtain ⟨y4, e5⟩ : ∃ y, V0 114 1 = y := ⟨_, rfl⟩
  have b6 := hV0.get 114 1 (lo := 0) (hi := 600) (by decide) (by decide) rfl
  rw [e5] at b6
  replace hT := hT.trans (pf_let_eq e5)
  obtain ⟨y7, e8⟩ : ∃ y, V0 114 2 = y := ⟨_, rfl⟩
  have b9 := hV0.get 114 2 (lo := 0) (hi := 600) (by decide) (by decide) rfl
  rw [e8] at b9
  replace hT := hT.trans (pf_let_eq e8)
  obtain ⟨y10, e11⟩ : ∃ y, V0 114 3 = y := ⟨_, rfl⟩
  have b12 := hV0.get 114 3 (lo := 0) (hi := 600) (by decide) (by decide) rfl
  rw [e11] at b12
  replace hT := hT.trans (pf_let_eq e11)
  refine pm_aload_n hC 0 (by decide) dX12_ones_0 rfl ?_
  have e13 : V0 90 53 = 114 := hV0.one 90 53 (by decide) (by decide) rfl
  refine pm_getf (v := 114) hC 90 fl_X12_82 rfl rfl (by decide) rfl e13 dX12_ones_1 ?_
  refine pm_iload_n hC 1 dX12_ones_4 rfl ?_
  refine pm_iconst (v := 1) hC dX12_ones_5 ?_
  refine pm_iastore (len := 8) hC 114 rfl rfl (by decide) ⟨by decide, by decide⟩ (by decide) dX12_ones_6 ?_
  refine pm_aload_n hC 0 (by decide) dX12_ones_7 rfl ?_
  have e14 : V0 90 52 = 113 := hV0.one 90 52 (by decide) (by decide) rfl
  refine pm_getf (v := 113) hC 90 fl_X12_79 rfl rfl (by decide) rfl e14 dX12_ones_8 ?_
  refine pm_iload_n hC 1 dX12_ones_11 rfl ?_
  refine pm_sipush (v := 300) hC dX12_ones_12 (by decide) ?_
  refine pm_imul hC dX12_ones_15 ?_
  change pm_J X 16 [(0, (3, 90)), (1, (0, 0))] [(0, 0), (3, 113)] 118 (pm_up V0 114 (0 : Int).toNat 1)
  refine pm_iconst (v := 1) hC dX12_ones_16 ?_
  refine pm_iastore (len := 2400) hC 113 rfl rfl (by decide) ⟨by decide, by decide⟩ (by decide) dX12_ones_17 ?_
  exact pm_vret hC hR ⟨rfl, ((hV0.put 114 (0 : Int).toNat (x := 1) (lo := 0) (hi := 600) rfl ⟨by decide, by decide⟩).put 113 (0 : Int).toNat (x := 1) (lo := 0) (hi := 9999) rfl ⟨by decide, by decide⟩), (((pm_fs.rf (cs := [113, 114]) (fs := []) (V := V0)).up 114 (0 : Int).toNat 1 (by decide) rfl).up 113 (0 : Int).toNat 1 (by decide) rfl), (by rw [(show (pm_up (pm_up V0 114 (0 : Int).toNat 1) 113 (0 : Int).toNat 1) 114 0 = 1 from rfl), e2]; omega), (by rw [(show (pm_up (pm_up V0 114 (0 : Int).toNat 1) 113 (0 : Int).toNat 1) 114 1 = y4 from e5), e5]), (by rw [(show (pm_up (pm_up V0 114 (0 : Int).toNat 1) 113 (0 : Int).toNat 1) 114 2 = y7 from e8), e8]), (by rw [(show (pm_up (pm_up V0 114 (0 : Int).toNat 1) 113 (0 : Int).toNat 1) 114 3 = y10 from e11), e11]), hT⟩ dX12_ones_18
set_option maxHeartbeats 4000000 in
set_option maxRecDepth 100000 in
theorem fB_X12_ones_d1  : pm_K 1 yX12_ones cX12_ones 2 none (fun av V => av = [(3, 90), (0, 1)] ∧ pm_oq pm_qB V) (fun _ V r V' => r = none ∧ pm_oq pm_qB V' ∧ pm_fs [113, 114] [] V V' ∧ (V' 114 0 = V 114 0) ∧ (V' 114 1 = 1) ∧ (V' 114 2 = V 114 2) ∧ (V' 114 3 = V 114 3) ∧ F_X12_ones_d1  V = (0, V')) := by
  refine pm_MT.of (by decide) ⟨Nat.le_refl _, by decide⟩ (fun av V h => by rw [h.1]; exact (by decide : pm_words [(3, 0), (0, 0)] ≤ 2)) ?_
  rintro X av V0 hC - hR ⟨rfl, hV0⟩
  change pm_J X 0 [(0, (3, 90)), (1, (0, 1))] [] 118 V0
  have hT := F_X12_ones_d1_eq  V0
  obtain ⟨y1, e2⟩ : ∃ y, V0 114 0 = y := ⟨_, rfl⟩
  have b3 := hV0.get 114 0 (lo := 0) (hi := 600) (by decide) (by decide) rfl
  rw [e2] at b3
  replace hT := hT.trans (pf_let_eq e2)
  obtain ⟨y4, e5⟩ : ∃ y, V0 114 1 = y := ⟨_, rfl⟩
  have b6 := hV0.get 114 1 (lo := 0) (hi := 600) (by decide) (by decide) rfl
  rw [e5] at b6
  replace hT := hT.trans (pf_let_eq e5)
  obtain ⟨y7, e8⟩ : ∃ y, V0 114 2 = y := ⟨_, rfl⟩
  have b9 := hV0.get 114 2 (lo := 0) (hi := 600) (by decide) (by decide) rfl
  rw [e8] at b9
  replace hT := hT.trans (pf_let_eq e8)
  obtain ⟨y10, e11⟩ : ∃ y, V0 114 3 = y := ⟨_, rfl⟩
  have b12 := hV0.get 114 3 (lo := 0) (hi := 600) (by decide) (by decide) rfl
  rw [e11] at b12
  replace hT := hT.trans (pf_let_eq e11)
  refine pm_aload_n hC 0 (by decide) dX12_ones_0 rfl ?_
  have e13 : V0 90 53 = 114 := hV0.one 90 53 (by decide) (by decide) rfl
  refine pm_getf (v := 114) hC 90 fl_X12_82 rfl rfl (by decide) rfl e13 dX12_ones_1 ?_
  refine pm_iload_n hC 1 dX12_ones_4 rfl ?_
  refine pm_iconst (v := 1) hC dX12_ones_5 ?_
  refine pm_iastore (len := 8) hC 114 rfl rfl (by decide) ⟨by decide, by decide⟩ (by decide) dX12_ones_6 ?_
  refine pm_aload_n hC 0 (by decide) dX12_ones_7 rfl ?_
  have e14 : V0 90 52 = 113 := hV0.one 90 52 (by decide) (by decide) rfl
  refine pm_getf (v := 113) hC 90 fl_X12_79 rfl rfl (by decide) rfl e14 dX12_ones_8 ?_
  refine pm_iload_n hC 1 dX12_ones_11 rfl ?_
  refine pm_sipush (v := 300) hC dX12_ones_12 (by decide) ?_
  refine pm_imul hC dX12_ones_15 ?_
  change pm_J X 16 [(0, (3, 90)), (1, (0, 1))] [(0, 300), (3, 113)] 118 (pm_up V0 114 (1 : Int).toNat 1)
  refine pm_iconst (v := 1) hC dX12_ones_16 ?_
  refine pm_iastore (len := 2400) hC 113 rfl rfl (by decide) ⟨by decide, by decide⟩ (by decide) dX12_ones_17 ?_
  exact pm_vret hC hR ⟨rfl, ((hV0.put 114 (1 : Int).toNat (x := 1) (lo := 0) (hi := 600) rfl ⟨by decide, by decide⟩).put 113 (300 : Int).toNat (x := 1) (lo := 0) (hi := 9999) rfl ⟨by decide, by decide⟩), (((pm_fs.rf (cs := [113, 114]) (fs := []) (V := V0)).up 114 (1 : Int).toNat 1 (by decide) rfl).up 113 (300 : Int).toNat 1 (by decide) rfl), (by rw [(show (pm_up (pm_up V0 114 (1 : Int).toNat 1) 113 (300 : Int).toNat 1) 114 0 = y1 from e2), e2]), (by rw [(show (pm_up (pm_up V0 114 (1 : Int).toNat 1) 113 (300 : Int).toNat 1) 114 1 = 1 from rfl), e5]; omega), (by rw [(show (pm_up (pm_up V0 114 (1 : Int).toNat 1) 113 (300 : Int).toNat 1) 114 2 = y7 from e8), e8]), (by rw [(show (pm_up (pm_up V0 114 (1 : Int).toNat 1) 113 (300 : Int).toNat 1) 114 3 = y10 from e11), e11]), hT⟩ dX12_ones_18
set_option maxHeartbeats 4000000 in
set_option maxRecDepth 100000 in
theorem fB_X12_multiplies_d0 (a1 : Int) (h0 : 0 ≤ a1 ∧ a1 ≤ 720000000) : pm_K 1 yX12_multiplies cX12_multiplies 9 none (fun av V => av = [(3, 90), (0, 0), (1, a1)] ∧ pm_oq pm_qB V ∧ (1 ≤ V 114 0 ∧ V 114 0 ≤ 181)) (fun _ V r V' => r = none ∧ pm_oq pm_qB V' ∧ pm_fs [113, 114] [] V V' ∧ (1 ≤ V' 114 0 ∧ V' 114 0 ≤ V 114 0 + 3) ∧ (V' 114 1 = V 114 1) ∧ (V' 114 2 = V 114 2) ∧ (V' 114 3 = V 114 3) ∧ F_X12_multiplies_d0 a1 V = (0, V')) := by
  refine pm_MT.of (by decide) ⟨Nat.le_refl _, by decide⟩ (fun av V h => by rw [h.1]; exact (by decide : pm_words [(3, 0), (0, 0), (1, 0)] ≤ 9)) ?_
  rintro X av V0 hC - hR ⟨rfl, hV0, hq0⟩
  change pm_J X 0 [(0, (3, 90)), (1, (0, 0)), (2, (1, a1))] [] 118 V0
  have hT := F_X12_multiplies_d0_eq a1 V0
  obtain ⟨z0, ez0⟩ : ∃ z, V0 114 0 = z := ⟨_, rfl⟩
  rw [ez0] at hq0
  replace hT := hT.trans (pf_let_eq ez0)
  obtain ⟨y1, e2⟩ : ∃ y, V0 114 1 = y := ⟨_, rfl⟩
  have b3 := hV0.get 114 1 (lo := 0) (hi := 600) (by decide) (by decide) rfl
  rw [e2] at b3
  replace hT := hT.trans (pf_let_eq e2)
  obtain ⟨y4, e5⟩ : ∃ y, V0 114 2 = y := ⟨_, rfl⟩
  have b6 := hV0.get 114 2 (lo := 0) (hi := 600) (by decide) (by decide) rfl
  rw [e5] at b6
  replace hT := hT.trans (pf_let_eq e5)
  obtain ⟨y7, e8⟩ : ∃ y, V0 114 3 = y := ⟨_, rfl⟩
  have b9 := hV0.get 114 3 (lo := 0) (hi := 600) (by decide) (by decide) rfl
  rw [e8] at b9
  replace hT := hT.trans (pf_let_eq e8)
  refine pm_lconst (x := 0) hC dX12_multiplies_0 rfl ?_
  refine pm_lstore (lv' := [(4, (1, 0)), (0, (3, 90)), (1, (0, 0)), (2, (1, a1))]) hC dX12_multiplies_1 (by decide) rfl ?_
  refine pm_iconst (v := 0) hC dX12_multiplies_3 ?_
  refine pm_istore (lv' := [(6, (0, 0)), (4, (1, 0)), (0, (3, 90)), (1, (0, 0)), (2, (1, a1))]) hC dX12_multiplies_4 (by decide) rfl ?_
  obtain ⟨B22, hB23, hT⟩ := pf_loop hT
  have L25 : ∀ (N27 : Nat) (x10 : Int) (x12 : Int) (V15 : pm_M), (0 ≤ x10 ∧ x10 ≤ 720000000) → (0 ≤ x12 ∧ x12 ≤ 181) → (x10 ≤ a1) → pm_oq pm_qB V15 → pm_fs [113, 114] [] V0 V15 → V15 114 0 = z0 → V15 114 1 = y1 → V15 114 2 = y4 → V15 114 3 = y7 → F_X12_multiplies_d0 a1 V0 = pf_val ((0 : Int), V0) B22 (x10, x12, V15) → (Int.toNat (181 - x12)) = N27 → pm_J X 6 [(0, (3, 90)), (1, (0, 0)), (2, (1, a1)), (4, (1, x10)), (6, (0, x12))] [] 118 V15 := by
    intro N27
    induction N27 using Nat.strongRecOn with
    | _ N27 ih28 =>
    intro x10 x12 V15 b11 b13 b14 hV16 hF17 e18 e19 e20 e21 hT hm26
    have hb24 := congrFun hB23 (x10, x12, V15)
    refine pm_iload hC 4 dX12_multiplies_6 rfl ?_
    refine pm_aload_n hC 0 (by decide) dX12_multiplies_8 rfl ?_
    have e29 : V15 90 53 = 114 := hV16.one 90 53 (by decide) (by decide) rfl
    refine pm_getf (v := 114) hC 90 fl_X12_82 rfl rfl (by decide) rfl e29 dX12_multiplies_9 ?_
    refine pm_iload_n hC 1 dX12_multiplies_12 rfl ?_
    refine pm_iaload (len := 8) (v := z0) hC 114 rfl rfl (by decide) ⟨by decide, by decide⟩ (by decide) e18 dX12_multiplies_13 ?_
    refine pm_icmp_ge (tgt := 72) hC ⟨by omega, by omega⟩ ⟨by omega, by omega⟩ dX12_multiplies_14 (by decide) (fun c30 => ?_) (fun c30 => ?_)
    · skip
      replace hb24 := hb24.trans (if_pos c30)
      obtain ⟨B41, hB42, hb24⟩ := pf_loop hb24
      have L44 : ∀ (N46 : Nat) (x31 : Int) (V33 : pm_M), (0 ≤ x31 ∧ x31 ≤ 720000000) → pm_oq pm_qB V33 → pm_fs [113, 114] [] V0 V33 → V33 114 1 = y1 → V33 114 2 = y4 → V33 114 3 = y7 → V33 90 53 = 114 → (1 ≤ V33 114 0 ∧ V33 114 0 ≤ z0 + 3 ∧ (1 ≤ x31 → V33 114 0 ≤ z0 + 2) ∧ (8 ≤ x31 → V33 114 0 ≤ z0 + 1) ∧ (72001 ≤ x31 → V33 114 0 ≤ z0)) → B22 (x10, x12, V15) = pf_val (.inr ((0 : Int), V0)) B41 (x31, V33) → (Int.toNat x31) = N46 → pm_J X 72 [(0, (3, 90)), (1, (0, 0)), (2, (1, a1)), (4, (1, x31)), (6, (0, x12))] [] 118 V33 := by
        intro N46
        induction N46 using Nat.strongRecOn with
        | _ N46 ih47 =>
        intro x31 V33 b32 hV34 hF35 e36 e37 e38 e39 hm40 hb24 hm45
        have hb43 := congrFun hB42 (x31, V33)
        refine pm_lload hC 3 dX12_multiplies_72 rfl ?_
        refine pm_lconst (x := 0) hC dX12_multiplies_74 rfl ?_
        refine pm_lcmp hC ⟨by omega, by omega⟩ ⟨by decide, by decide⟩ dX12_multiplies_75 (fun y48 b49 => ?_)
        replace hb43 := hb43.trans (pf_let_eq (pm_cmp_u b49))
        refine pm_if_le (tgt := 124) hC ⟨by omega, by omega⟩ dX12_multiplies_76 (by decide) (fun c50 => ?_) (fun c50 => ?_)
        · skip
          replace hb43 := hb43.trans (if_pos c50)
          obtain ⟨B59, hB60, hb43⟩ := pf_loop hb43
          have L62 : ∀ (N64 : Nat) (V51 : pm_M), pm_oq pm_qB V51 → pm_fs [113, 114] [] V0 V51 → V51 114 1 = y1 → V51 114 2 = y4 → V51 114 3 = y7 → V51 90 53 = 114 → (1 ≤ V51 114 0 ∧ V51 114 0 ≤ z0 + 3) → B41 (x31, V33) = pf_val (.inr (.inr ((0 : Int), V0))) B59 V51 → (Int.toNat (V51 114 0)) = N64 → pm_J X 124 [(0, (3, 90)), (1, (0, 0)), (2, (1, a1)), (4, (1, x31)), (6, (0, x12))] [] 118 V51 := by
            intro N64
            induction N64 using Nat.strongRecOn with
            | _ N64 ih65 =>
            intro V51 hV52 hF53 e54 e55 e56 e57 hm58 hb43 hm63
            have hb61 := congrFun hB60 V51
            refine pm_aload_n hC 0 (by decide) dX12_multiplies_124 rfl ?_
            refine pm_getf (v := 114) hC 90 fl_X12_82 rfl rfl (by decide) rfl e57 dX12_multiplies_125 ?_
            refine pm_iload_n hC 1 dX12_multiplies_128 rfl ?_
            obtain ⟨y66, e67⟩ : ∃ y, V51 114 0 = y := ⟨_, rfl⟩
            have b68 := hV52.get 114 0 (lo := 0) (hi := 600) (by decide) (by decide) rfl
            rw [e67] at b68
            replace hb61 := hb61.trans (pf_let_eq e67)
            refine pm_iaload (len := 8) (v := y66) hC 114 rfl rfl (by decide) ⟨by decide, by decide⟩ (by decide) e67 dX12_multiplies_129 ?_
            refine pm_iconst (v := 1) hC dX12_multiplies_130 ?_
            refine pm_icmp_le (tgt := 169) hC ⟨by omega, by omega⟩ ⟨by decide, by decide⟩ dX12_multiplies_131 (by decide) (fun c69 => ?_) (fun c69 => ?_)
            · skip
              replace hb61 := hb61.trans (if_pos c69)
              have hb43 := hb43.trans (pf_val_inr hb61)
              have hb24 := hb24.trans (pf_val_inr hb43)
              have hT := hT.trans (pf_val_inr hb24)
              exact pm_vret hC hR ⟨rfl, hV52, hF53, (by rw [(show V51 114 0 = y66 from e67), ez0]; omega), (by rw [(show V51 114 1 = y1 from e54), e2]), (by rw [(show V51 114 2 = y4 from e55), e5]), (by rw [(show V51 114 3 = y7 from e56), e8]), hT⟩ dX12_multiplies_169
            · skip
              replace hb61 := hb61.trans (if_neg (Int.not_le.mpr c69))
              refine pm_aload_n hC 0 (by decide) dX12_multiplies_134 rfl ?_
              have e70 : V51 90 52 = 113 := hV52.one 90 52 (by decide) (by decide) rfl
              refine pm_getf (v := 113) hC 90 fl_X12_79 rfl rfl (by decide) rfl e70 dX12_multiplies_135 ?_
              refine pm_iload_n hC 1 dX12_multiplies_138 rfl ?_
              refine pm_sipush (v := 300) hC dX12_multiplies_139 (by decide) ?_
              refine pm_imul hC dX12_multiplies_142 ?_
              change pm_J X 143 [(0, (3, 90)), (1, (0, 0)), (2, (1, a1)), (4, (1, x31)), (6, (0, x12))] [(0, 0), (3, 113)] 118 V51
              refine pm_aload_n hC 0 (by decide) dX12_multiplies_143 rfl ?_
              refine pm_getf (v := 114) hC 90 fl_X12_82 rfl rfl (by decide) rfl e57 dX12_multiplies_144 ?_
              refine pm_iload_n hC 1 dX12_multiplies_147 rfl ?_
              refine pm_iaload (len := 8) (v := y66) hC 114 rfl rfl (by decide) ⟨by decide, by decide⟩ (by decide) e67 dX12_multiplies_148 ?_
              refine pm_iadd hC dX12_multiplies_149 ?_
              refine pm_iconst (v := 1) hC dX12_multiplies_150 ?_
              refine pm_isub hC dX12_multiplies_151 ?_
              obtain ⟨y71, e72⟩ : ∃ y, V51 113 (((0 + y66) - 1) : Int).toNat = y := ⟨_, rfl⟩
              replace hb61 := hb61.trans (pf_let_eq e72)
              have b73 := hV52.get 113 (((0 + y66) - 1) : Int).toNat (lo := 0) (hi := 9999) (t := 0) (by decide) (show _ < 2400 by omega) rfl
              rw [e72] at b73
              refine pm_iaload (len := 2400) (v := y71) hC 113 rfl rfl (by decide) ⟨by omega, by omega⟩ (by decide) e72 dX12_multiplies_152 ?_
              refine pm_if_ne (tgt := 169) hC ⟨by omega, by omega⟩ dX12_multiplies_153 (by decide) (fun c74 => ?_) (fun c74 => ?_)
              · skip
                replace hb61 := hb61.trans (if_pos c74)
                have hb43 := hb43.trans (pf_val_inr hb61)
                have hb24 := hb24.trans (pf_val_inr hb43)
                have hT := hT.trans (pf_val_inr hb24)
                exact pm_vret hC hR ⟨rfl, hV52, hF53, (by rw [(show V51 114 0 = y66 from e67), ez0]; omega), (by rw [(show V51 114 1 = y1 from e54), e2]), (by rw [(show V51 114 2 = y4 from e55), e5]), (by rw [(show V51 114 3 = y7 from e56), e8]), hT⟩ dX12_multiplies_169
              · skip
                replace hb61 := hb61.trans (if_neg (fun q => q c74))
                refine pm_aload_n hC 0 (by decide) dX12_multiplies_156 rfl ?_
                refine pm_getf (v := 114) hC 90 fl_X12_82 rfl rfl (by decide) rfl e57 dX12_multiplies_157 ?_
                refine pm_iload_n hC 1 dX12_multiplies_160 rfl ?_
                refine pm_dup2 hC rfl rfl dX12_multiplies_161 ?_
                refine pm_iaload (len := 8) (v := y66) hC 114 rfl rfl (by decide) ⟨by decide, by decide⟩ (by decide) e67 dX12_multiplies_162 ?_
                refine pm_iconst (v := 1) hC dX12_multiplies_163 ?_
                refine pm_isub hC dX12_multiplies_164 ?_
                refine pm_iastore (len := 8) hC 114 rfl rfl (by decide) ⟨by decide, by decide⟩ (by decide) dX12_multiplies_165 ?_
                refine pm_goto (tgt := 124) hC dX12_multiplies_166 (by decide) ?_
                refine pm_lvsub [0, 1, 2, 3, 4] (lv' := [(0, (3, 90)), (1, (0, 0)), (2, (1, a1)), (4, (1, x31)), (6, (0, x12))]) rfl ?_
                exact ih65 _ (by show Int.toNat ((y66 - 1)) < _; omega) (pm_up V51 114 (0 : Int).toNat (y66 - 1)) (hV52.put 114 (0 : Int).toNat (x := (y66 - 1)) (lo := 0) (hi := 600) rfl ⟨by omega, by omega⟩) (hF53.up 114 (0 : Int).toNat (y66 - 1) (by decide) rfl) e54 e55 e56 e57 (show 1 ≤ (y66 - 1) ∧ (y66 - 1) ≤ z0 + 3 by omega) (hb43.trans (pf_val_inl hb61)) rfl
          refine pm_lvsub [0, 1, 2, 3, 4] (lv' := [(0, (3, 90)), (1, (0, 0)), (2, (1, a1)), (4, (1, x31)), (6, (0, x12))]) rfl ?_
          obtain ⟨y75, e76⟩ : ∃ y, V33 114 0 = y := ⟨_, rfl⟩
          have b77 := hV34.get 114 0 (lo := 0) (hi := 600) (by decide) (by decide) rfl
          rw [e76] at b77
          replace hb43 := hb43.trans (pf_let_eq e76)
          exact L62 _ V33 hV34 hF35 e36 e37 e38 e39 (by (have e : V33 114 0 = y75 := e76); rw [e]; omega) hb43 rfl
        · skip
          replace hb43 := hb43.trans (if_neg (Int.not_le.mpr c50))
          refine pm_aload_n hC 0 (by decide) dX12_multiplies_79 rfl ?_
          have e78 : V33 90 52 = 113 := hV34.one 90 52 (by decide) (by decide) rfl
          refine pm_getf (v := 113) hC 90 fl_X12_79 rfl rfl (by decide) rfl e78 dX12_multiplies_80 ?_
          refine pm_iload_n hC 1 dX12_multiplies_83 rfl ?_
          refine pm_sipush (v := 300) hC dX12_multiplies_84 (by decide) ?_
          refine pm_imul hC dX12_multiplies_87 ?_
          change pm_J X 88 [(0, (3, 90)), (1, (0, 0)), (2, (1, a1)), (4, (1, x31)), (6, (0, x12))] [(0, 0), (3, 113)] 118 V33
          refine pm_aload_n hC 0 (by decide) dX12_multiplies_88 rfl ?_
          refine pm_getf (v := 114) hC 90 fl_X12_82 rfl rfl (by decide) rfl e39 dX12_multiplies_89 ?_
          refine pm_iload_n hC 1 dX12_multiplies_92 rfl ?_
          obtain ⟨y79, e80⟩ : ∃ y, V33 114 0 = y := ⟨_, rfl⟩
          have b81 := hV34.get 114 0 (lo := 0) (hi := 600) (by decide) (by decide) rfl
          rw [e80] at b81
          replace hb43 := hb43.trans (pf_let_eq e80)
          refine pm_iaload (len := 8) (v := y79) hC 114 rfl rfl (by decide) ⟨by decide, by decide⟩ (by decide) e80 dX12_multiplies_93 ?_
          refine pm_iadd hC dX12_multiplies_94 ?_
          refine pm_lload hC 3 dX12_multiplies_95 rfl ?_
          refine pm_ldc2 (v := 10000) hC 7157 dX12_multiplies_97 (by decide +kernel) ?_
          refine pm_lrem hC ⟨by omega, by omega, by omega⟩ ⟨by decide, by decide, by decide⟩ dX12_multiplies_100 ?_
          refine pm_l2i hC dX12_multiplies_101 ?_
          refine pm_iastore (len := 2400) hC 113 rfl rfl (by decide) ⟨by omega, by omega⟩ (by decide) dX12_multiplies_102 ?_
          refine pm_aload_n hC 0 (by decide) dX12_multiplies_103 rfl ?_
          refine pm_getf (v := 114) hC 90 fl_X12_82 rfl rfl (by decide) rfl e39 dX12_multiplies_104 ?_
          refine pm_iload_n hC 1 dX12_multiplies_107 rfl ?_
          refine pm_dup2 hC rfl rfl dX12_multiplies_108 ?_
          refine pm_iaload (len := 8) (v := y79) hC 114 rfl rfl (by decide) ⟨by decide, by decide⟩ (by decide) e80 dX12_multiplies_109 ?_
          refine pm_iconst (v := 1) hC dX12_multiplies_110 ?_
          refine pm_iadd hC dX12_multiplies_111 ?_
          refine pm_iastore (len := 8) hC 114 rfl rfl (by decide) ⟨by decide, by decide⟩ (by decide) dX12_multiplies_112 ?_
          refine pm_lload hC 3 dX12_multiplies_113 rfl ?_
          refine pm_ldc2 (v := 10000) hC 7157 dX12_multiplies_115 (by decide +kernel) ?_
          refine pm_ldiv hC ⟨by omega, by omega, by omega⟩ ⟨by decide, by decide, by decide⟩ dX12_multiplies_118 ?_
          refine pm_lstore (lv' := [(4, (1, (x31 / 10000))), (0, (3, 90)), (1, (0, 0)), (2, (1, a1)), (6, (0, x12))]) hC dX12_multiplies_119 (by decide) rfl ?_
          refine pm_goto (tgt := 72) hC dX12_multiplies_121 (by decide) ?_
          refine pm_lvsub [1, 2, 3, 0, 4] (lv' := [(0, (3, 90)), (1, (0, 0)), (2, (1, a1)), (4, (1, (x31 / 10000))), (6, (0, x12))]) rfl ?_
          exact ih47 _ (by omega) (x31 / 10000) (pm_up (pm_up V33 113 ((0 + y79) : Int).toNat (x31 % 10000)) 114 (0 : Int).toNat (y79 + 1)) ⟨by omega, by omega⟩ ((hV34.put 113 ((0 + y79) : Int).toNat (x := (x31 % 10000)) (lo := 0) (hi := 9999) rfl ⟨by omega, by omega⟩).put 114 (0 : Int).toNat (x := (y79 + 1)) (lo := 0) (hi := 600) rfl ⟨by omega, by omega⟩) ((hF35.up 113 ((0 + y79) : Int).toNat (x31 % 10000) (by decide) rfl).up 114 (0 : Int).toNat (y79 + 1) (by decide) rfl) e36 e37 e38 e39 (show 1 ≤ (y79 + 1) ∧ (y79 + 1) ≤ z0 + 3 ∧ (1 ≤ (x31 / 10000) → (y79 + 1) ≤ z0 + 2) ∧ (8 ≤ (x31 / 10000) → (y79 + 1) ≤ z0 + 1) ∧ (72001 ≤ (x31 / 10000) → (y79 + 1) ≤ z0) by omega) (hb24.trans (pf_val_inl hb43)) rfl
      refine pm_lvsub [0, 1, 2, 3, 4] (lv' := [(0, (3, 90)), (1, (0, 0)), (2, (1, a1)), (4, (1, x10)), (6, (0, x12))]) rfl ?_
      exact L44 _ x10 V15 ⟨by omega, by omega⟩ hV16 hF17 e19 e20 e21 e29 (by (have e : V15 114 0 = z0 := e18); rw [e]; omega) hb24 rfl
    · skip
      replace hb24 := hb24.trans (if_neg (Int.not_le.mpr c30))
      refine pm_aload_n hC 0 (by decide) dX12_multiplies_17 rfl ?_
      have e82 : V15 90 52 = 113 := hV16.one 90 52 (by decide) (by decide) rfl
      refine pm_getf (v := 113) hC 90 fl_X12_79 rfl rfl (by decide) rfl e82 dX12_multiplies_18 ?_
      refine pm_iload_n hC 1 dX12_multiplies_21 rfl ?_
      refine pm_sipush (v := 300) hC dX12_multiplies_22 (by decide) ?_
      refine pm_imul hC dX12_multiplies_25 ?_
      change pm_J X 26 [(0, (3, 90)), (1, (0, 0)), (2, (1, a1)), (4, (1, x10)), (6, (0, x12))] [(0, 0), (3, 113)] 118 V15
      refine pm_iload hC 4 dX12_multiplies_26 rfl ?_
      refine pm_iadd hC dX12_multiplies_28 ?_
      obtain ⟨y83, e84⟩ : ∃ y, V15 113 ((0 + x12) : Int).toNat = y := ⟨_, rfl⟩
      replace hb24 := hb24.trans (pf_let_eq e84)
      have b85 := hV16.get 113 ((0 + x12) : Int).toNat (lo := 0) (hi := 9999) (t := 0) (by decide) (show _ < 2400 by omega) rfl
      rw [e84] at b85
      refine pm_iaload (len := 2400) (v := y83) hC 113 rfl rfl (by decide) ⟨by omega, by omega⟩ (by decide) e84 dX12_multiplies_29 ?_
      refine pm_i2l hC ⟨by omega, by omega⟩ dX12_multiplies_30 ?_
      refine pm_lload_n hC 2 dX12_multiplies_31 rfl ?_
      refine pm_lmul hC dX12_multiplies_32 ?_
      have b87 : 0 ≤ (y83 * a1) ∧ (y83 * a1) ≤ 7199280000000 := pm_mulb (by omega) (by omega) (show y83 ≤ 9999 by omega) (show a1 ≤ 720000000 by omega) (by decide)
      obtain ⟨y86, hey86⟩ : ∃ z, (y83 * a1) = z := ⟨_, rfl⟩
      rw [hey86] at b87 ⊢
      replace hb24 := hb24.trans (pf_let_eq hey86)
      have hm88 : y86 ≤ 9999 * a1 := by rw [← hey86]; exact Int.mul_le_mul_of_nonneg_right (by omega) (by omega)
      refine pm_lload hC 3 dX12_multiplies_33 rfl ?_
      refine pm_ladd hC dX12_multiplies_35 ?_
      refine pm_lstore (lv' := [(7, (1, (y86 + x10))), (0, (3, 90)), (1, (0, 0)), (2, (1, a1)), (4, (1, x10)), (6, (0, x12))]) hC dX12_multiplies_36 (by decide) rfl ?_
      refine pm_aload_n hC 1 (by decide) dX12_multiplies_38 rfl ?_
      refine pm_getf (v := 113) hC 90 fl_X12_79 rfl rfl (by decide) rfl e82 dX12_multiplies_39 ?_
      refine pm_iload_n hC 2 dX12_multiplies_42 rfl ?_
      refine pm_sipush (v := 300) hC dX12_multiplies_43 (by decide) ?_
      refine pm_imul hC dX12_multiplies_46 ?_
      change pm_J X 47 [(7, (1, (y86 + x10))), (0, (3, 90)), (1, (0, 0)), (2, (1, a1)), (4, (1, x10)), (6, (0, x12))] [(0, 0), (3, 113)] 118 V15
      refine pm_iload hC 5 dX12_multiplies_47 rfl ?_
      refine pm_iadd hC dX12_multiplies_49 ?_
      refine pm_lload hC 0 dX12_multiplies_50 rfl ?_
      refine pm_ldc2 (v := 10000) hC 7157 dX12_multiplies_52 (by decide +kernel) ?_
      refine pm_lrem hC ⟨by omega, by omega, by omega⟩ ⟨by decide, by decide, by decide⟩ dX12_multiplies_55 ?_
      refine pm_l2i hC dX12_multiplies_56 ?_
      refine pm_iastore (len := 2400) hC 113 rfl rfl (by decide) ⟨by omega, by omega⟩ (by decide) dX12_multiplies_57 ?_
      refine pm_lload hC 0 dX12_multiplies_58 rfl ?_
      refine pm_ldc2 (v := 10000) hC 7157 dX12_multiplies_60 (by decide +kernel) ?_
      refine pm_ldiv hC ⟨by omega, by omega, by omega⟩ ⟨by decide, by decide, by decide⟩ dX12_multiplies_63 ?_
      refine pm_lstore (lv' := [(4, (1, ((y86 + x10) / 10000))), (7, (1, (y86 + x10))), (0, (3, 90)), (1, (0, 0)), (2, (1, a1)), (6, (0, x12))]) hC dX12_multiplies_64 (by decide) rfl ?_
      obtain ⟨x89, ei90⟩ : ∃ y : Int, x12 + 1 = y := ⟨_, rfl⟩
      replace hb24 := hb24.trans (pf_let_eq ei90)
      refine pm_iinc (y := x89) (lv' := [(6, (0, x89)), (4, (1, ((y86 + x10) / 10000))), (7, (1, (y86 + x10))), (0, (3, 90)), (1, (0, 0)), (2, (1, a1))]) hC 5 dX12_multiplies_66 (by decide) rfl ei90 rfl ?_
      refine pm_goto (tgt := 6) hC dX12_multiplies_69 (by decide) ?_
      refine pm_lvsub [3, 4, 5, 1, 0] (lv' := [(0, (3, 90)), (1, (0, 0)), (2, (1, a1)), (4, (1, ((y86 + x10) / 10000))), (6, (0, x89))]) rfl ?_
      exact ih28 _ (by omega) ((y86 + x10) / 10000) x89 (pm_up V15 113 ((0 + x12) : Int).toNat ((y86 + x10) % 10000)) ⟨by omega, by omega⟩ ⟨by omega, by omega⟩ (by omega) (hV16.put 113 ((0 + x12) : Int).toNat (x := ((y86 + x10) % 10000)) (lo := 0) (hi := 9999) rfl ⟨by omega, by omega⟩) (hF17.up 113 ((0 + x12) : Int).toNat ((y86 + x10) % 10000) (by decide) rfl) e18 e19 e20 e21 (hT.trans (pf_val_inl hb24)) rfl
  refine pm_lvsub [2, 3, 4, 1, 0] (lv' := [(0, (3, 90)), (1, (0, 0)), (2, (1, a1)), (4, (1, 0)), (6, (0, 0))]) rfl ?_
  exact L25 _ 0 0 V0 ⟨by decide, by decide⟩ ⟨by decide, by decide⟩ (by omega) hV0 (pm_fs.rf (cs := [113, 114]) (fs := []) (V := V0)) ez0 e2 e5 e8 hT rfl
set_option maxHeartbeats 4000000 in
set_option maxRecDepth 100000 in
theorem fB_X12_multiplies_d1 (a1 : Int) (h0 : 0 ≤ a1 ∧ a1 ≤ 720000000) : pm_K 1 yX12_multiplies cX12_multiplies 9 none (fun av V => av = [(3, 90), (0, 1), (1, a1)] ∧ pm_oq pm_qB V ∧ (1 ≤ V 114 1 ∧ V 114 1 ≤ 181)) (fun _ V r V' => r = none ∧ pm_oq pm_qB V' ∧ pm_fs [113, 114] [] V V' ∧ (V' 114 0 = V 114 0) ∧ (1 ≤ V' 114 1 ∧ V' 114 1 ≤ V 114 1 + 3) ∧ (V' 114 2 = V 114 2) ∧ (V' 114 3 = V 114 3) ∧ F_X12_multiplies_d1 a1 V = (0, V')) := by
  refine pm_MT.of (by decide) ⟨Nat.le_refl _, by decide⟩ (fun av V h => by rw [h.1]; exact (by decide : pm_words [(3, 0), (0, 0), (1, 0)] ≤ 9)) ?_
  rintro X av V0 hC - hR ⟨rfl, hV0, hq0⟩
  change pm_J X 0 [(0, (3, 90)), (1, (0, 1)), (2, (1, a1))] [] 118 V0
  have hT := F_X12_multiplies_d1_eq a1 V0
  obtain ⟨z0, ez0⟩ : ∃ z, V0 114 1 = z := ⟨_, rfl⟩
  rw [ez0] at hq0
  replace hT := hT.trans (pf_let_eq ez0)
  obtain ⟨y1, e2⟩ : ∃ y, V0 114 0 = y := ⟨_, rfl⟩
  have b3 := hV0.get 114 0 (lo := 0) (hi := 600) (by decide) (by decide) rfl
  rw [e2] at b3
  replace hT := hT.trans (pf_let_eq e2)
  obtain ⟨y4, e5⟩ : ∃ y, V0 114 2 = y := ⟨_, rfl⟩
  have b6 := hV0.get 114 2 (lo := 0) (hi := 600) (by decide) (by decide) rfl
  rw [e5] at b6
  replace hT := hT.trans (pf_let_eq e5)
  obtain ⟨y7, e8⟩ : ∃ y, V0 114 3 = y := ⟨_, rfl⟩
  have b9 := hV0.get 114 3 (lo := 0) (hi := 600) (by decide) (by decide) rfl
  rw [e8] at b9
  replace hT := hT.trans (pf_let_eq e8)
  refine pm_lconst (x := 0) hC dX12_multiplies_0 rfl ?_
  refine pm_lstore (lv' := [(4, (1, 0)), (0, (3, 90)), (1, (0, 1)), (2, (1, a1))]) hC dX12_multiplies_1 (by decide) rfl ?_
  refine pm_iconst (v := 0) hC dX12_multiplies_3 ?_
  refine pm_istore (lv' := [(6, (0, 0)), (4, (1, 0)), (0, (3, 90)), (1, (0, 1)), (2, (1, a1))]) hC dX12_multiplies_4 (by decide) rfl ?_
  obtain ⟨B22, hB23, hT⟩ := pf_loop hT
  have L25 : ∀ (N27 : Nat) (x10 : Int) (x12 : Int) (V15 : pm_M), (0 ≤ x10 ∧ x10 ≤ 720000000) → (0 ≤ x12 ∧ x12 ≤ 181) → (x10 ≤ a1) → pm_oq pm_qB V15 → pm_fs [113, 114] [] V0 V15 → V15 114 1 = z0 → V15 114 0 = y1 → V15 114 2 = y4 → V15 114 3 = y7 → F_X12_multiplies_d1 a1 V0 = pf_val ((0 : Int), V0) B22 (x10, x12, V15) → (Int.toNat (181 - x12)) = N27 → pm_J X 6 [(0, (3, 90)), (1, (0, 1)), (2, (1, a1)), (4, (1, x10)), (6, (0, x12))] [] 118 V15 := by
    intro N27
    induction N27 using Nat.strongRecOn with
    | _ N27 ih28 =>
    intro x10 x12 V15 b11 b13 b14 hV16 hF17 e18 e19 e20 e21 hT hm26
    have hb24 := congrFun hB23 (x10, x12, V15)
    refine pm_iload hC 4 dX12_multiplies_6 rfl ?_
    refine pm_aload_n hC 0 (by decide) dX12_multiplies_8 rfl ?_
    have e29 : V15 90 53 = 114 := hV16.one 90 53 (by decide) (by decide) rfl
    refine pm_getf (v := 114) hC 90 fl_X12_82 rfl rfl (by decide) rfl e29 dX12_multiplies_9 ?_
    refine pm_iload_n hC 1 dX12_multiplies_12 rfl ?_
    refine pm_iaload (len := 8) (v := z0) hC 114 rfl rfl (by decide) ⟨by decide, by decide⟩ (by decide) e18 dX12_multiplies_13 ?_
    refine pm_icmp_ge (tgt := 72) hC ⟨by omega, by omega⟩ ⟨by omega, by omega⟩ dX12_multiplies_14 (by decide) (fun c30 => ?_) (fun c30 => ?_)
    · skip
      replace hb24 := hb24.trans (if_pos c30)
      obtain ⟨B41, hB42, hb24⟩ := pf_loop hb24
      have L44 : ∀ (N46 : Nat) (x31 : Int) (V33 : pm_M), (0 ≤ x31 ∧ x31 ≤ 720000000) → pm_oq pm_qB V33 → pm_fs [113, 114] [] V0 V33 → V33 114 0 = y1 → V33 114 2 = y4 → V33 114 3 = y7 → V33 90 53 = 114 → (1 ≤ V33 114 1 ∧ V33 114 1 ≤ z0 + 3 ∧ (1 ≤ x31 → V33 114 1 ≤ z0 + 2) ∧ (8 ≤ x31 → V33 114 1 ≤ z0 + 1) ∧ (72001 ≤ x31 → V33 114 1 ≤ z0)) → B22 (x10, x12, V15) = pf_val (.inr ((0 : Int), V0)) B41 (x31, V33) → (Int.toNat x31) = N46 → pm_J X 72 [(0, (3, 90)), (1, (0, 1)), (2, (1, a1)), (4, (1, x31)), (6, (0, x12))] [] 118 V33 := by
        intro N46
        induction N46 using Nat.strongRecOn with
        | _ N46 ih47 =>
        intro x31 V33 b32 hV34 hF35 e36 e37 e38 e39 hm40 hb24 hm45
        have hb43 := congrFun hB42 (x31, V33)
        refine pm_lload hC 3 dX12_multiplies_72 rfl ?_
        refine pm_lconst (x := 0) hC dX12_multiplies_74 rfl ?_
        refine pm_lcmp hC ⟨by omega, by omega⟩ ⟨by decide, by decide⟩ dX12_multiplies_75 (fun y48 b49 => ?_)
        replace hb43 := hb43.trans (pf_let_eq (pm_cmp_u b49))
        refine pm_if_le (tgt := 124) hC ⟨by omega, by omega⟩ dX12_multiplies_76 (by decide) (fun c50 => ?_) (fun c50 => ?_)
        · skip
          replace hb43 := hb43.trans (if_pos c50)
          obtain ⟨B59, hB60, hb43⟩ := pf_loop hb43
          have L62 : ∀ (N64 : Nat) (V51 : pm_M), pm_oq pm_qB V51 → pm_fs [113, 114] [] V0 V51 → V51 114 0 = y1 → V51 114 2 = y4 → V51 114 3 = y7 → V51 90 53 = 114 → (1 ≤ V51 114 1 ∧ V51 114 1 ≤ z0 + 3) → B41 (x31, V33) = pf_val (.inr (.inr ((0 : Int), V0))) B59 V51 → (Int.toNat (V51 114 1)) = N64 → pm_J X 124 [(0, (3, 90)), (1, (0, 1)), (2, (1, a1)), (4, (1, x31)), (6, (0, x12))] [] 118 V51 := by
            intro N64
            induction N64 using Nat.strongRecOn with
            | _ N64 ih65 =>
            intro V51 hV52 hF53 e54 e55 e56 e57 hm58 hb43 hm63
            have hb61 := congrFun hB60 V51
            refine pm_aload_n hC 0 (by decide) dX12_multiplies_124 rfl ?_
            refine pm_getf (v := 114) hC 90 fl_X12_82 rfl rfl (by decide) rfl e57 dX12_multiplies_125 ?_
            refine pm_iload_n hC 1 dX12_multiplies_128 rfl ?_
            obtain ⟨y66, e67⟩ : ∃ y, V51 114 1 = y := ⟨_, rfl⟩
            have b68 := hV52.get 114 1 (lo := 0) (hi := 600) (by decide) (by decide) rfl
            rw [e67] at b68
            replace hb61 := hb61.trans (pf_let_eq e67)
            refine pm_iaload (len := 8) (v := y66) hC 114 rfl rfl (by decide) ⟨by decide, by decide⟩ (by decide) e67 dX12_multiplies_129 ?_
            refine pm_iconst (v := 1) hC dX12_multiplies_130 ?_
            refine pm_icmp_le (tgt := 169) hC ⟨by omega, by omega⟩ ⟨by decide, by decide⟩ dX12_multiplies_131 (by decide) (fun c69 => ?_) (fun c69 => ?_)
            · skip
              replace hb61 := hb61.trans (if_pos c69)
              have hb43 := hb43.trans (pf_val_inr hb61)
              have hb24 := hb24.trans (pf_val_inr hb43)
              have hT := hT.trans (pf_val_inr hb24)
              exact pm_vret hC hR ⟨rfl, hV52, hF53, (by rw [(show V51 114 0 = y1 from e54), e2]), (by rw [(show V51 114 1 = y66 from e67), ez0]; omega), (by rw [(show V51 114 2 = y4 from e55), e5]), (by rw [(show V51 114 3 = y7 from e56), e8]), hT⟩ dX12_multiplies_169
            · skip
              replace hb61 := hb61.trans (if_neg (Int.not_le.mpr c69))
              refine pm_aload_n hC 0 (by decide) dX12_multiplies_134 rfl ?_
              have e70 : V51 90 52 = 113 := hV52.one 90 52 (by decide) (by decide) rfl
              refine pm_getf (v := 113) hC 90 fl_X12_79 rfl rfl (by decide) rfl e70 dX12_multiplies_135 ?_
              refine pm_iload_n hC 1 dX12_multiplies_138 rfl ?_
              refine pm_sipush (v := 300) hC dX12_multiplies_139 (by decide) ?_
              refine pm_imul hC dX12_multiplies_142 ?_
              change pm_J X 143 [(0, (3, 90)), (1, (0, 1)), (2, (1, a1)), (4, (1, x31)), (6, (0, x12))] [(0, 300), (3, 113)] 118 V51
              refine pm_aload_n hC 0 (by decide) dX12_multiplies_143 rfl ?_
              refine pm_getf (v := 114) hC 90 fl_X12_82 rfl rfl (by decide) rfl e57 dX12_multiplies_144 ?_
              refine pm_iload_n hC 1 dX12_multiplies_147 rfl ?_
              refine pm_iaload (len := 8) (v := y66) hC 114 rfl rfl (by decide) ⟨by decide, by decide⟩ (by decide) e67 dX12_multiplies_148 ?_
              refine pm_iadd hC dX12_multiplies_149 ?_
              refine pm_iconst (v := 1) hC dX12_multiplies_150 ?_
              refine pm_isub hC dX12_multiplies_151 ?_
              obtain ⟨y71, e72⟩ : ∃ y, V51 113 (((300 + y66) - 1) : Int).toNat = y := ⟨_, rfl⟩
              replace hb61 := hb61.trans (pf_let_eq e72)
              have b73 := hV52.get 113 (((300 + y66) - 1) : Int).toNat (lo := 0) (hi := 9999) (t := 0) (by decide) (show _ < 2400 by omega) rfl
              rw [e72] at b73
              refine pm_iaload (len := 2400) (v := y71) hC 113 rfl rfl (by decide) ⟨by omega, by omega⟩ (by decide) e72 dX12_multiplies_152 ?_
              refine pm_if_ne (tgt := 169) hC ⟨by omega, by omega⟩ dX12_multiplies_153 (by decide) (fun c74 => ?_) (fun c74 => ?_)
              · skip
                replace hb61 := hb61.trans (if_pos c74)
                have hb43 := hb43.trans (pf_val_inr hb61)
                have hb24 := hb24.trans (pf_val_inr hb43)
                have hT := hT.trans (pf_val_inr hb24)
                exact pm_vret hC hR ⟨rfl, hV52, hF53, (by rw [(show V51 114 0 = y1 from e54), e2]), (by rw [(show V51 114 1 = y66 from e67), ez0]; omega), (by rw [(show V51 114 2 = y4 from e55), e5]), (by rw [(show V51 114 3 = y7 from e56), e8]), hT⟩ dX12_multiplies_169
              · skip
                replace hb61 := hb61.trans (if_neg (fun q => q c74))
                refine pm_aload_n hC 0 (by decide) dX12_multiplies_156 rfl ?_
                refine pm_getf (v := 114) hC 90 fl_X12_82 rfl rfl (by decide) rfl e57 dX12_multiplies_157 ?_
                refine pm_iload_n hC 1 dX12_multiplies_160 rfl ?_
                refine pm_dup2 hC rfl rfl dX12_multiplies_161 ?_
                refine pm_iaload (len := 8) (v := y66) hC 114 rfl rfl (by decide) ⟨by decide, by decide⟩ (by decide) e67 dX12_multiplies_162 ?_
                refine pm_iconst (v := 1) hC dX12_multiplies_163 ?_
                refine pm_isub hC dX12_multiplies_164 ?_
                refine pm_iastore (len := 8) hC 114 rfl rfl (by decide) ⟨by decide, by decide⟩ (by decide) dX12_multiplies_165 ?_
                refine pm_goto (tgt := 124) hC dX12_multiplies_166 (by decide) ?_
                refine pm_lvsub [0, 1, 2, 3, 4] (lv' := [(0, (3, 90)), (1, (0, 1)), (2, (1, a1)), (4, (1, x31)), (6, (0, x12))]) rfl ?_
                exact ih65 _ (by show Int.toNat ((y66 - 1)) < _; omega) (pm_up V51 114 (1 : Int).toNat (y66 - 1)) (hV52.put 114 (1 : Int).toNat (x := (y66 - 1)) (lo := 0) (hi := 600) rfl ⟨by omega, by omega⟩) (hF53.up 114 (1 : Int).toNat (y66 - 1) (by decide) rfl) e54 e55 e56 e57 (show 1 ≤ (y66 - 1) ∧ (y66 - 1) ≤ z0 + 3 by omega) (hb43.trans (pf_val_inl hb61)) rfl
          refine pm_lvsub [0, 1, 2, 3, 4] (lv' := [(0, (3, 90)), (1, (0, 1)), (2, (1, a1)), (4, (1, x31)), (6, (0, x12))]) rfl ?_
          obtain ⟨y75, e76⟩ : ∃ y, V33 114 1 = y := ⟨_, rfl⟩
          have b77 := hV34.get 114 1 (lo := 0) (hi := 600) (by decide) (by decide) rfl
          rw [e76] at b77
          replace hb43 := hb43.trans (pf_let_eq e76)
          exact L62 _ V33 hV34 hF35 e36 e37 e38 e39 (by (have e : V33 114 1 = y75 := e76); rw [e]; omega) hb43 rfl
        · skip
          replace hb43 := hb43.trans (if_neg (Int.not_le.mpr c50))
          refine pm_aload_n hC 0 (by decide) dX12_multiplies_79 rfl ?_
          have e78 : V33 90 52 = 113 := hV34.one 90 52 (by decide) (by decide) rfl
          refine pm_getf (v := 113) hC 90 fl_X12_79 rfl rfl (by decide) rfl e78 dX12_multiplies_80 ?_
          refine pm_iload_n hC 1 dX12_multiplies_83 rfl ?_
          refine pm_sipush (v := 300) hC dX12_multiplies_84 (by decide) ?_
          refine pm_imul hC dX12_multiplies_87 ?_
          change pm_J X 88 [(0, (3, 90)), (1, (0, 1)), (2, (1, a1)), (4, (1, x31)), (6, (0, x12))] [(0, 300), (3, 113)] 118 V33
          refine pm_aload_n hC 0 (by decide) dX12_multiplies_88 rfl ?_
          refine pm_getf (v := 114) hC 90 fl_X12_82 rfl rfl (by decide) rfl e39 dX12_multiplies_89 ?_
          refine pm_iload_n hC 1 dX12_multiplies_92 rfl ?_
          obtain ⟨y79, e80⟩ : ∃ y, V33 114 1 = y := ⟨_, rfl⟩
          have b81 := hV34.get 114 1 (lo := 0) (hi := 600) (by decide) (by decide) rfl
          rw [e80] at b81
          replace hb43 := hb43.trans (pf_let_eq e80)
          refine pm_iaload (len := 8) (v := y79) hC 114 rfl rfl (by decide) ⟨by decide, by decide⟩ (by decide) e80 dX12_multiplies_93 ?_
          refine pm_iadd hC dX12_multiplies_94 ?_
          refine pm_lload hC 3 dX12_multiplies_95 rfl ?_
          refine pm_ldc2 (v := 10000) hC 7157 dX12_multiplies_97 (by decide +kernel) ?_
          refine pm_lrem hC ⟨by omega, by omega, by omega⟩ ⟨by decide, by decide, by decide⟩ dX12_multiplies_100 ?_
          refine pm_l2i hC dX12_multiplies_101 ?_
          refine pm_iastore (len := 2400) hC 113 rfl rfl (by decide) ⟨by omega, by omega⟩ (by decide) dX12_multiplies_102 ?_
          refine pm_aload_n hC 0 (by decide) dX12_multiplies_103 rfl ?_
          refine pm_getf (v := 114) hC 90 fl_X12_82 rfl rfl (by decide) rfl e39 dX12_multiplies_104 ?_
          refine pm_iload_n hC 1 dX12_multiplies_107 rfl ?_
          refine pm_dup2 hC rfl rfl dX12_multiplies_108 ?_
          refine pm_iaload (len := 8) (v := y79) hC 114 rfl rfl (by decide) ⟨by decide, by decide⟩ (by decide) e80 dX12_multiplies_109 ?_
          refine pm_iconst (v := 1) hC dX12_multiplies_110 ?_
          refine pm_iadd hC dX12_multiplies_111 ?_
          refine pm_iastore (len := 8) hC 114 rfl rfl (by decide) ⟨by decide, by decide⟩ (by decide) dX12_multiplies_112 ?_
          refine pm_lload hC 3 dX12_multiplies_113 rfl ?_
          refine pm_ldc2 (v := 10000) hC 7157 dX12_multiplies_115 (by decide +kernel) ?_
          refine pm_ldiv hC ⟨by omega, by omega, by omega⟩ ⟨by decide, by decide, by decide⟩ dX12_multiplies_118 ?_
          refine pm_lstore (lv' := [(4, (1, (x31 / 10000))), (0, (3, 90)), (1, (0, 1)), (2, (1, a1)), (6, (0, x12))]) hC dX12_multiplies_119 (by decide) rfl ?_
          refine pm_goto (tgt := 72) hC dX12_multiplies_121 (by decide) ?_
          refine pm_lvsub [1, 2, 3, 0, 4] (lv' := [(0, (3, 90)), (1, (0, 1)), (2, (1, a1)), (4, (1, (x31 / 10000))), (6, (0, x12))]) rfl ?_
          exact ih47 _ (by omega) (x31 / 10000) (pm_up (pm_up V33 113 ((300 + y79) : Int).toNat (x31 % 10000)) 114 (1 : Int).toNat (y79 + 1)) ⟨by omega, by omega⟩ ((hV34.put 113 ((300 + y79) : Int).toNat (x := (x31 % 10000)) (lo := 0) (hi := 9999) rfl ⟨by omega, by omega⟩).put 114 (1 : Int).toNat (x := (y79 + 1)) (lo := 0) (hi := 600) rfl ⟨by omega, by omega⟩) ((hF35.up 113 ((300 + y79) : Int).toNat (x31 % 10000) (by decide) rfl).up 114 (1 : Int).toNat (y79 + 1) (by decide) rfl) e36 e37 e38 e39 (show 1 ≤ (y79 + 1) ∧ (y79 + 1) ≤ z0 + 3 ∧ (1 ≤ (x31 / 10000) → (y79 + 1) ≤ z0 + 2) ∧ (8 ≤ (x31 / 10000) → (y79 + 1) ≤ z0 + 1) ∧ (72001 ≤ (x31 / 10000) → (y79 + 1) ≤ z0) by omega) (hb24.trans (pf_val_inl hb43)) rfl
      refine pm_lvsub [0, 1, 2, 3, 4] (lv' := [(0, (3, 90)), (1, (0, 1)), (2, (1, a1)), (4, (1, x10)), (6, (0, x12))]) rfl ?_
      exact L44 _ x10 V15 ⟨by omega, by omega⟩ hV16 hF17 e19 e20 e21 e29 (by (have e : V15 114 1 = z0 := e18); rw [e]; omega) hb24 rfl
    · skip
      replace hb24 := hb24.trans (if_neg (Int.not_le.mpr c30))
      refine pm_aload_n hC 0 (by decide) dX12_multiplies_17 rfl ?_
      have e82 : V15 90 52 = 113 := hV16.one 90 52 (by decide) (by decide) rfl
      refine pm_getf (v := 113) hC 90 fl_X12_79 rfl rfl (by decide) rfl e82 dX12_multiplies_18 ?_
      refine pm_iload_n hC 1 dX12_multiplies_21 rfl ?_
      refine pm_sipush (v := 300) hC dX12_multiplies_22 (by decide) ?_
      refine pm_imul hC dX12_multiplies_25 ?_
      change pm_J X 26 [(0, (3, 90)), (1, (0, 1)), (2, (1, a1)), (4, (1, x10)), (6, (0, x12))] [(0, 300), (3, 113)] 118 V15
      refine pm_iload hC 4 dX12_multiplies_26 rfl ?_
      refine pm_iadd hC dX12_multiplies_28 ?_
      obtain ⟨y83, e84⟩ : ∃ y, V15 113 ((300 + x12) : Int).toNat = y := ⟨_, rfl⟩
      replace hb24 := hb24.trans (pf_let_eq e84)
      have b85 := hV16.get 113 ((300 + x12) : Int).toNat (lo := 0) (hi := 9999) (t := 0) (by decide) (show _ < 2400 by omega) rfl
      rw [e84] at b85
      refine pm_iaload (len := 2400) (v := y83) hC 113 rfl rfl (by decide) ⟨by omega, by omega⟩ (by decide) e84 dX12_multiplies_29 ?_
      refine pm_i2l hC ⟨by omega, by omega⟩ dX12_multiplies_30 ?_
      refine pm_lload_n hC 2 dX12_multiplies_31 rfl ?_
      refine pm_lmul hC dX12_multiplies_32 ?_
      have b87 : 0 ≤ (y83 * a1) ∧ (y83 * a1) ≤ 7199280000000 := pm_mulb (by omega) (by omega) (show y83 ≤ 9999 by omega) (show a1 ≤ 720000000 by omega) (by decide)
      obtain ⟨y86, hey86⟩ : ∃ z, (y83 * a1) = z := ⟨_, rfl⟩
      rw [hey86] at b87 ⊢
      replace hb24 := hb24.trans (pf_let_eq hey86)
      have hm88 : y86 ≤ 9999 * a1 := by rw [← hey86]; exact Int.mul_le_mul_of_nonneg_right (by omega) (by omega)
      refine pm_lload hC 3 dX12_multiplies_33 rfl ?_
      refine pm_ladd hC dX12_multiplies_35 ?_
      refine pm_lstore (lv' := [(7, (1, (y86 + x10))), (0, (3, 90)), (1, (0, 1)), (2, (1, a1)), (4, (1, x10)), (6, (0, x12))]) hC dX12_multiplies_36 (by decide) rfl ?_
      refine pm_aload_n hC 1 (by decide) dX12_multiplies_38 rfl ?_
      refine pm_getf (v := 113) hC 90 fl_X12_79 rfl rfl (by decide) rfl e82 dX12_multiplies_39 ?_
      refine pm_iload_n hC 2 dX12_multiplies_42 rfl ?_
      refine pm_sipush (v := 300) hC dX12_multiplies_43 (by decide) ?_
      refine pm_imul hC dX12_multiplies_46 ?_
      change pm_J X 47 [(7, (1, (y86 + x10))), (0, (3, 90)), (1, (0, 1)), (2, (1, a1)), (4, (1, x10)), (6, (0, x12))] [(0, 300), (3, 113)] 118 V15
      refine pm_iload hC 5 dX12_multiplies_47 rfl ?_
      refine pm_iadd hC dX12_multiplies_49 ?_
      refine pm_lload hC 0 dX12_multiplies_50 rfl ?_
      refine pm_ldc2 (v := 10000) hC 7157 dX12_multiplies_52 (by decide +kernel) ?_
      refine pm_lrem hC ⟨by omega, by omega, by omega⟩ ⟨by decide, by decide, by decide⟩ dX12_multiplies_55 ?_
      refine pm_l2i hC dX12_multiplies_56 ?_
      refine pm_iastore (len := 2400) hC 113 rfl rfl (by decide) ⟨by omega, by omega⟩ (by decide) dX12_multiplies_57 ?_
      refine pm_lload hC 0 dX12_multiplies_58 rfl ?_
      refine pm_ldc2 (v := 10000) hC 7157 dX12_multiplies_60 (by decide +kernel) ?_
      refine pm_ldiv hC ⟨by omega, by omega, by omega⟩ ⟨by decide, by decide, by decide⟩ dX12_multiplies_63 ?_
      refine pm_lstore (lv' := [(4, (1, ((y86 + x10) / 10000))), (7, (1, (y86 + x10))), (0, (3, 90)), (1, (0, 1)), (2, (1, a1)), (6, (0, x12))]) hC dX12_multiplies_64 (by decide) rfl ?_
      obtain ⟨x89, ei90⟩ : ∃ y : Int, x12 + 1 = y := ⟨_, rfl⟩
      replace hb24 := hb24.trans (pf_let_eq ei90)
      refine pm_iinc (y := x89) (lv' := [(6, (0, x89)), (4, (1, ((y86 + x10) / 10000))), (7, (1, (y86 + x10))), (0, (3, 90)), (1, (0, 1)), (2, (1, a1))]) hC 5 dX12_multiplies_66 (by decide) rfl ei90 rfl ?_
      refine pm_goto (tgt := 6) hC dX12_multiplies_69 (by decide) ?_
      refine pm_lvsub [3, 4, 5, 1, 0] (lv' := [(0, (3, 90)), (1, (0, 1)), (2, (1, a1)), (4, (1, ((y86 + x10) / 10000))), (6, (0, x89))]) rfl ?_
      exact ih28 _ (by omega) ((y86 + x10) / 10000) x89 (pm_up V15 113 ((300 + x12) : Int).toNat ((y86 + x10) % 10000)) ⟨by omega, by omega⟩ ⟨by omega, by omega⟩ (by omega) (hV16.put 113 ((300 + x12) : Int).toNat (x := ((y86 + x10) % 10000)) (lo := 0) (hi := 9999) rfl ⟨by omega, by omega⟩) (hF17.up 113 ((300 + x12) : Int).toNat ((y86 + x10) % 10000) (by decide) rfl) e18 e19 e20 e21 (hT.trans (pf_val_inl hb24)) rfl
  refine pm_lvsub [2, 3, 4, 1, 0] (lv' := [(0, (3, 90)), (1, (0, 1)), (2, (1, a1)), (4, (1, 0)), (6, (0, 0))]) rfl ?_
  exact L25 _ 0 0 V0 ⟨by decide, by decide⟩ ⟨by decide, by decide⟩ (by omega) hV0 (pm_fs.rf (cs := [113, 114]) (fs := []) (V := V0)) ez0 e2 e5 e8 hT rfl
set_option maxHeartbeats 4000000 in
set_option maxRecDepth 100000 in
theorem fB_X12_fits_d0 (a1 a2 : Int) (h0 : 0 ≤ a1 ∧ a1 ≤ 6) (h1 : (-1) ≤ a2 ∧ a2 ≤ 9) : pm_K 4 yX12_fits cX12_fits 5 none (fun av V => av = [(3, 90), (0, a1), (0, a2), (0, 0)] ∧ pm_oq pm_qB V ∧ pm_h1 V ∧ pm_h2 V ∧ pm_h3 V) (fun _ V r V' => r = none ∧ pm_oq pm_qB V' ∧ pm_fs [110, 111, 112, 113, 114] [42, 43, 44, 45, 46, 47, 48, 49, 51] V V' ∧ (1 ≤ V' 114 0 ∧ V' 114 0 ≤ 181) ∧ (1 ≤ V' 114 1 ∧ V' 114 1 ≤ 181) ∧ (V' 114 2 = V 114 2) ∧ (V' 114 3 = V 114 3) ∧ F_X12_fits_d0 a1 a2 V = (0, V')) := by
  refine pm_MT.of (by decide) ⟨Nat.le_refl _, by decide⟩ (fun av V h => by rw [h.1]; exact (by decide : pm_words [(3, 0), (0, 0), (0, 0), (0, 0)] ≤ 5)) ?_
  rintro X av V0 hC - hR ⟨rfl, hV0, hn_pm_h1, hn_pm_h2, hn_pm_h3⟩
  change pm_J X 0 [(0, (3, 90)), (1, (0, a1)), (2, (0, a2)), (3, (0, 0))] [] 118 V0
  have hT := F_X12_fits_d0_eq a1 a2 V0
  obtain ⟨y1, e2⟩ : ∃ y, V0 114 0 = y := ⟨_, rfl⟩
  have b3 := hV0.get 114 0 (lo := 0) (hi := 600) (by decide) (by decide) rfl
  rw [e2] at b3
  replace hT := hT.trans (pf_let_eq e2)
  obtain ⟨y4, e5⟩ : ∃ y, V0 114 1 = y := ⟨_, rfl⟩
  have b6 := hV0.get 114 1 (lo := 0) (hi := 600) (by decide) (by decide) rfl
  rw [e5] at b6
  replace hT := hT.trans (pf_let_eq e5)
  obtain ⟨y7, e8⟩ : ∃ y, V0 114 2 = y := ⟨_, rfl⟩
  have b9 := hV0.get 114 2 (lo := 0) (hi := 600) (by decide) (by decide) rfl
  rw [e8] at b9
  replace hT := hT.trans (pf_let_eq e8)
  obtain ⟨y10, e11⟩ : ∃ y, V0 114 3 = y := ⟨_, rfl⟩
  have b12 := hV0.get 114 3 (lo := 0) (hi := 600) (by decide) (by decide) rfl
  rw [e11] at b12
  replace hT := hT.trans (pf_let_eq e11)
  refine pm_aload_n hC 0 (by decide) dX12_fits_0 rfl ?_
  refine pm_iload_n hC 3 dX12_fits_1 rfl ?_
  refine pm_callV (ci := 12) (as := [(0, 0)]) (st := []) hC 90 fB_X12_ones_d0 lm_X12_408 li_X12_ones (by decide) (by decide) rfl rfl rfl (by decide) rfl rfl (Nat.le_of_ble_eq_true rfl) ⟨Nat.le_refl _, Or.inl rfl⟩ dX12_fits_2 ⟨rfl, hV0⟩ (fun r13 V14 hp15 => ?_)
  obtain ⟨rfl, hV16, hF17, hxp18, hxp19, hxp20, hxp21, hE22⟩ := hp15
  replace hT := hT.trans (pf_call_eq hE22)
  change pm_J X 5 [(0, (3, 90)), (1, (0, a1)), (2, (0, a2)), (3, (0, 0))] [] 118 V14
  have hF23 := pm_fs.tr (pm_fs.rf (cs := [110, 111, 112, 113, 114]) (fs := [42, 43, 44, 45, 46, 47, 48, 49, 51]) (V := V0)) hF17 (by decide) (by decide)
  have hp24 : pm_h1 V14 := (pm_h1.fr hn_pm_h1 (hF17.2 16 (by decide)) (hF17.1 97 (by decide) (by decide)))
  have hp25 : pm_h2 V14 := (pm_h2.fr hn_pm_h2 (hF17.2 16 (by decide)) (hF17.2 21 (by decide)) (hF17.1 99 (by decide) (by decide)))
  have hp26 : pm_h3 V14 := (pm_h3.fr hn_pm_h3 (hF17.2 16 (by decide)) (hF17.2 25 (by decide)) (hF17.1 101 (by decide) (by decide)))
  obtain ⟨y27, e28⟩ : ∃ y, V14 114 0 = y := ⟨_, rfl⟩
  have b29 := hV16.get 114 0 (lo := 0) (hi := 600) (by decide) (by decide) rfl
  rw [e28] at b29
  replace hT := hT.trans (pf_let_eq e28)
  obtain ⟨y30, e31⟩ : ∃ y, V14 114 1 = y := ⟨_, rfl⟩
  have b32 := hV16.get 114 1 (lo := 0) (hi := 600) (by decide) (by decide) rfl
  rw [e31] at b32
  replace hT := hT.trans (pf_let_eq e31)
  obtain ⟨y33, e34⟩ : ∃ y, V14 114 2 = y := ⟨_, rfl⟩
  have b35 := hV16.get 114 2 (lo := 0) (hi := 600) (by decide) (by decide) rfl
  rw [e34] at b35
  replace hT := hT.trans (pf_let_eq e34)
  obtain ⟨y36, e37⟩ : ∃ y, V14 114 3 = y := ⟨_, rfl⟩
  have b38 := hV16.get 114 3 (lo := 0) (hi := 600) (by decide) (by decide) rfl
  rw [e37] at b38
  replace hT := hT.trans (pf_let_eq e37)
  refine pm_aload_n hC 0 (by decide) dX12_fits_5 rfl ?_
  refine pm_iload_n hC 3 dX12_fits_6 rfl ?_
  refine pm_iconst (v := 1) hC dX12_fits_7 ?_
  refine pm_iadd hC dX12_fits_8 ?_
  change pm_J X 9 [(0, (3, 90)), (1, (0, a1)), (2, (0, a2)), (3, (0, 0))] [(0, 1), (3, 90)] 118 V14
  refine pm_callV (ci := 12) (as := [(0, 1)]) (st := []) hC 90 fB_X12_ones_d1 lm_X12_408 li_X12_ones (by decide) (by decide) rfl rfl rfl (by decide) rfl rfl (Nat.le_of_ble_eq_true rfl) ⟨Nat.le_refl _, Or.inl rfl⟩ dX12_fits_9 ⟨rfl, hV16⟩ (fun r39 V40 hp41 => ?_)
  obtain ⟨rfl, hV42, hF43, hxp44, hxp45, hxp46, hxp47, hE48⟩ := hp41
  replace hT := hT.trans (pf_call_eq hE48)
  change pm_J X 12 [(0, (3, 90)), (1, (0, a1)), (2, (0, a2)), (3, (0, 0))] [] 118 V40
  have hF49 := pm_fs.tr hF23 hF43 (by decide) (by decide)
  have hp50 : pm_h1 V40 := (pm_h1.fr hp24 (hF43.2 16 (by decide)) (hF43.1 97 (by decide) (by decide)))
  have hp51 : pm_h2 V40 := (pm_h2.fr hp25 (hF43.2 16 (by decide)) (hF43.2 21 (by decide)) (hF43.1 99 (by decide) (by decide)))
  have hp52 : pm_h3 V40 := (pm_h3.fr hp26 (hF43.2 16 (by decide)) (hF43.2 25 (by decide)) (hF43.1 101 (by decide) (by decide)))
  obtain ⟨y53, e54⟩ : ∃ y, V40 114 0 = y := ⟨_, rfl⟩
  have b55 := hV42.get 114 0 (lo := 0) (hi := 600) (by decide) (by decide) rfl
  rw [e54] at b55
  replace hT := hT.trans (pf_let_eq e54)
  obtain ⟨y56, e57⟩ : ∃ y, V40 114 1 = y := ⟨_, rfl⟩
  have b58 := hV42.get 114 1 (lo := 0) (hi := 600) (by decide) (by decide) rfl
  rw [e57] at b58
  replace hT := hT.trans (pf_let_eq e57)
  obtain ⟨y59, e60⟩ : ∃ y, V40 114 2 = y := ⟨_, rfl⟩
  have b61 := hV42.get 114 2 (lo := 0) (hi := 600) (by decide) (by decide) rfl
  rw [e60] at b61
  replace hT := hT.trans (pf_let_eq e60)
  obtain ⟨y62, e63⟩ : ∃ y, V40 114 3 = y := ⟨_, rfl⟩
  have b64 := hV42.get 114 3 (lo := 0) (hi := 600) (by decide) (by decide) rfl
  rw [e63] at b64
  replace hT := hT.trans (pf_let_eq e63)
  refine pm_iconst (v := 0) hC dX12_fits_12 ?_
  refine pm_istore (lv' := [(4, (0, 0)), (0, (3, 90)), (1, (0, a1)), (2, (0, a2)), (3, (0, 0))]) hC dX12_fits_13 (by decide) rfl ?_
  obtain ⟨B77, hB78, hT⟩ := pf_loop hT
  have L80 : ∀ (N82 : Nat) (x65 : Int) (V67 : pm_M), (0 ≤ x65 ∧ x65 ≤ 60) → pm_oq pm_qB V67 → pm_fs [110, 111, 112, 113, 114] [42, 43, 44, 45, 46, 47, 48, 49, 51] V0 V67 → V67 114 2 = y59 → V67 114 3 = y62 → pm_h1 V67 → pm_h2 V67 → pm_h3 V67 → (1 ≤ V67 114 0 ∧ V67 114 0 ≤ 1 + 3 * x65) → (1 ≤ V67 114 1 ∧ V67 114 1 ≤ 1 + 3 * x65) → F_X12_fits_d0 a1 a2 V0 = pf_val ((0 : Int), V0) B77 (x65, V67) → (Int.toNat (60 - x65)) = N82 → pm_J X 15 [(0, (3, 90)), (1, (0, a1)), (2, (0, a2)), (3, (0, 0)), (4, (0, x65))] [] 118 V67 := by
    intro N82
    induction N82 using Nat.strongRecOn with
    | _ N82 ih83 =>
    intro x65 V67 b66 hV68 hF69 e70 e71 hp72 hp73 hp74 hm75 hm76 hT hm81
    have hb79 := congrFun hB78 (x65, V67)
    refine pm_iload hC 4 dX12_fits_15 rfl ?_
    refine pm_aload_n hC 0 (by decide) dX12_fits_17 rfl ?_
    obtain ⟨y84, e85⟩ : ∃ y, V67 90 25 = y := ⟨_, rfl⟩
    have b86 := hV68.get 90 25 (lo := 0) (hi := 60) (by decide) (by decide) rfl
    rw [e85] at b86
    replace hb79 := hb79.trans (pf_let_eq e85)
    refine pm_getf (v := y84) hC 90 fl_X12_235 rfl rfl (by decide) rfl e85 dX12_fits_18 ?_
    refine pm_icmp_ge (tgt := 97) hC ⟨by omega, by omega⟩ ⟨by omega, by omega⟩ dX12_fits_21 (by decide) (fun c87 => ?_) (fun c87 => ?_)
    · skip
      replace hb79 := hb79.trans (if_pos c87)
      have hT := hT.trans (pf_val_inr hb79)
      obtain ⟨y88, e89⟩ : ∃ y, V67 114 0 = y := ⟨_, rfl⟩
      have b90 := hV68.get 114 0 (lo := 0) (hi := 600) (by decide) (by decide) rfl
      rw [e89] at b90
      replace hb79 := hb79.trans (pf_let_eq e89)
      obtain ⟨y91, e92⟩ : ∃ y, V67 114 1 = y := ⟨_, rfl⟩
      have b93 := hV68.get 114 1 (lo := 0) (hi := 600) (by decide) (by decide) rfl
      rw [e92] at b93
      replace hb79 := hb79.trans (pf_let_eq e92)
      exact pm_vret hC hR ⟨rfl, hV68, hF69, (by rw [(show V67 114 0 = y88 from e89), e2]; omega), (by rw [(show V67 114 1 = y91 from e92), e5]; omega), (by rw [(show V67 114 2 = y59 from e70), e8]), (by rw [(show V67 114 3 = y62 from e71), e11]), hT⟩ dX12_fits_97
    · skip
      replace hb79 := hb79.trans (if_neg (Int.not_le.mpr c87))
      refine pm_iload_n hC 2 dX12_fits_24 rfl ?_
      refine pm_iconst (v := (-1)) hC dX12_fits_25 ?_
      refine pm_icmp_eq (tgt := 48) hC ⟨by omega, by omega⟩ ⟨by decide, by decide⟩ dX12_fits_26 (by decide) (fun c94 => ?_) (fun c94 => ?_)
      · skip
        replace hb79 := hb79.trans (if_pos c94)
        refine pm_aload_n hC 0 (by decide) dX12_fits_48 rfl ?_
        refine pm_iload hC 4 dX12_fits_49 rfl ?_
        refine pm_callV (ci := 12) (as := [(0, x65)]) (st := []) hC 90 (fB_X12_worksAnswer x65 ⟨by omega, by omega⟩) lm_X12_403 li_X12_worksAnswer (by decide) (by decide) rfl rfl rfl (by decide) rfl rfl (Nat.le_of_ble_eq_true rfl) ⟨Nat.le_refl _, Or.inl rfl⟩ dX12_fits_51 ⟨rfl, hV68, (show (x65) < V67 90 25 by omega), hp72, hp74⟩ (fun r95 V96 hp97 => ?_)
        obtain ⟨rfl, hV98, hF99, hq100, hq101, hg102, hg103, hE104⟩ := hp97
        replace hb79 := hb79.trans (pf_call_eq hE104)
        change pm_J X 54 [(0, (3, 90)), (1, (0, a1)), (2, (0, a2)), (3, (0, 0)), (4, (0, x65))] [] 118 V96
        have hF105 := pm_fs.tr hF69 hF99 (by decide) (by decide)
        have e106 : V96 114 2 = y59 := by rw [hF99.1 114 (by decide) (by decide)]; exact e70
        have e107 : V96 114 3 = y62 := by rw [hF99.1 114 (by decide) (by decide)]; exact e71
        have e108 : V96 90 25 = y84 := by rw [hF99.2 25 (by decide)]; exact e85
        have hp109 : pm_h1 V96 := (pm_h1.fr hp72 (hF99.2 16 (by decide)) (hF99.1 97 (by decide) (by decide)))
        have hp110 : pm_h2 V96 := (pm_h2.fr hp73 (hF99.2 16 (by decide)) (hF99.2 21 (by decide)) (hF99.1 99 (by decide) (by decide)))
        have hp111 : pm_h3 V96 := (pm_h3.fr hp74 (hF99.2 16 (by decide)) (hF99.2 25 (by decide)) (hF99.1 101 (by decide) (by decide)))
        obtain ⟨z112, ez113⟩ : ∃ z, V96 90 42 = z := ⟨_, rfl⟩
        rw [ez113] at hq100
        replace hb79 := hb79.trans (pf_let_eq ez113)
        obtain ⟨z114, ez115⟩ : ∃ z, V96 90 43 = z := ⟨_, rfl⟩
        rw [ez115] at hq101
        replace hb79 := hb79.trans (pf_let_eq ez115)
        refine pm_aload_n hC 0 (by decide) dX12_fits_54 rfl ?_
        refine pm_iload_n hC 1 dX12_fits_55 rfl ?_
        have q119 : 1 ≤ V96 90 42 ∧ V96 90 42 ≤ 171 := by (have e : V96 90 42 = z112 := ez113); rw [e]; exact ⟨by omega, by omega⟩
        have q120 : 1 ≤ V96 90 43 ∧ V96 90 43 ≤ 171 := by (have e : V96 90 43 = z114 := ez115); rw [e]; exact ⟨by omega, by omega⟩
        refine pm_callV (ci := 12) (as := [(0, a1)]) (st := []) hC 90 (fB_X12_weighs a1 ⟨by omega, by omega⟩) lm_X12_380 li_X12_weighs (by decide) (by decide) rfl rfl rfl (by decide) rfl rfl (Nat.le_of_ble_eq_true rfl) ⟨Nat.le_refl _, Or.inl rfl⟩ dX12_fits_56 ⟨rfl, hV98, q119, q120, hg102, hp109, hp110, hg103⟩ (fun r116 V117 hp118 => ?_)
        obtain ⟨rfl, hV121, hF122, hg123, hE124⟩ := hp118
        replace hb79 := hb79.trans (pf_call_eq hE124)
        change pm_J X 59 [(0, (3, 90)), (1, (0, a1)), (2, (0, a2)), (3, (0, 0)), (4, (0, x65))] [] 118 V117
        have hF125 := pm_fs.tr hF105 hF122 (by decide) (by decide)
        have e126 : V117 114 2 = y59 := by rw [hF122.1 114 (by decide) (by decide)]; exact e106
        have e127 : V117 114 3 = y62 := by rw [hF122.1 114 (by decide) (by decide)]; exact e107
        have e128 : V117 90 25 = y84 := by rw [hF122.2 25 (by decide)]; exact e108
        have e129 : V117 90 42 = z112 := by rw [hF122.2 42 (by decide)]; exact ez113
        have e130 : V117 90 43 = z114 := by rw [hF122.2 43 (by decide)]; exact ez115
        have hp131 : pm_h1 V117 := (pm_h1.fr hp109 (hF122.2 16 (by decide)) (hF122.1 97 (by decide) (by decide)))
        have hp132 : pm_h2 V117 := (pm_h2.fr hp110 (hF122.2 16 (by decide)) (hF122.2 21 (by decide)) (hF122.1 99 (by decide) (by decide)))
        have hp133 : pm_h3 V117 := (pm_h3.fr hp111 (hF122.2 16 (by decide)) (hF122.2 25 (by decide)) (hF122.1 101 (by decide) (by decide)))
        have hp134 : pm_w1 V117 := (pm_w1.fr hg102 (hF122.2 16 (by decide)) (hF122.2 48 (by decide)) (hF122.2 49 (by decide)) (hF122.1 110 (by decide) (by decide)) (hF122.1 111 (by decide) (by decide)))
        have hp135 : pm_w3 V117 := (pm_w3.fr hg103 (hF122.2 16 (by decide)) (hF122.2 46 (by decide)) (hF122.1 110 (by decide) (by decide)) (hF122.1 111 (by decide) (by decide)))
        refine pm_aload_n hC 0 (by decide) dX12_fits_59 rfl ?_
        refine pm_iload_n hC 3 dX12_fits_60 rfl ?_
        refine pm_aload_n hC 0 (by decide) dX12_fits_61 rfl ?_
        have e136 : V117 90 50 = 112 := hV121.one 90 50 (by decide) (by decide) rfl
        refine pm_getf (v := 112) hC 90 fl_X12_76 rfl rfl (by decide) rfl e136 dX12_fits_62 ?_
        refine pm_aload_n hC 0 (by decide) dX12_fits_65 rfl ?_
        have e137 : V117 90 26 = 101 := hV121.one 90 26 (by decide) (by decide) rfl
        refine pm_getf (v := 101) hC 90 fl_X12_43 rfl rfl (by decide) rfl e137 dX12_fits_66 ?_
        refine pm_iconst (v := 5) hC dX12_fits_69 ?_
        refine pm_iload hC 4 dX12_fits_70 rfl ?_
        refine pm_imul hC dX12_fits_72 ?_
        refine pm_iconst (v := 3) hC dX12_fits_73 ?_
        refine pm_iadd hC dX12_fits_74 ?_
        obtain ⟨y138, e139⟩ : ∃ y, V117 101 (((5 * x65) + 3) : Int).toNat = y := ⟨_, rfl⟩
        replace hb79 := hb79.trans (pf_let_eq e139)
        have b140 := hV121.get 101 (((5 * x65) + 3) : Int).toNat (lo := 0) (hi := 8) (t := 0) (by decide) (show _ < 300 by omega) ((pm_qe_r (tb := pm_qB) (k := 101) (i := (((5 * x65) + 3) : Int).toNat) (m := 5) (r := 3) (l := [(0, 999, 1), (0, 99, 0), (-99, 99, 0), (0, 8, 0), (0, 1, 0)]) rfl rfl (by omega)).trans rfl)
        rw [e139] at b140
        refine pm_iaload (len := 300) (v := y138) hC 101 rfl rfl (by decide) ⟨by omega, by omega⟩ (by decide) e139 dX12_fits_75 ?_
        obtain ⟨y141, e142⟩ : ∃ y, V117 112 (y138 : Int).toNat = y := ⟨_, rfl⟩
        replace hb79 := hb79.trans (pf_let_eq e142)
        have b143 := hV121.get 112 (y138 : Int).toNat (lo := 0) (hi := 80000000) (t := 0) (by decide) (show _ < 9 by omega) rfl
        rw [e142] at b143
        refine pm_laload (len := 9) (v := y141) hC 112 rfl rfl (by decide) ⟨by omega, by omega⟩ (by decide) e142 dX12_fits_76 ?_
        obtain ⟨y144, e145⟩ : ∃ y, V117 114 0 = y := ⟨_, rfl⟩
        have b146 := hV121.get 114 0 (lo := 0) (hi := 600) (by decide) (by decide) rfl
        rw [e145] at b146
        replace hb79 := hb79.trans (pf_let_eq e145)
        obtain ⟨y147, e148⟩ : ∃ y, V117 114 1 = y := ⟨_, rfl⟩
        have b149 := hV121.get 114 1 (lo := 0) (hi := 600) (by decide) (by decide) rfl
        rw [e148] at b149
        replace hb79 := hb79.trans (pf_let_eq e148)
        have q153 : 1 ≤ V117 114 0 ∧ V117 114 0 ≤ 181 := by (have e : V117 114 0 = y144 := e145); rw [e]; exact ⟨by omega, by omega⟩
        refine pm_callV (ci := 12) (as := [(0, 0), (1, y141)]) (st := []) hC 90 (fB_X12_multiplies_d0 y141 ⟨by omega, by omega⟩) lm_X12_411 li_X12_multiplies (by decide) (by decide) rfl rfl rfl (by decide) rfl rfl (Nat.le_of_ble_eq_true rfl) ⟨Nat.le_refl _, Or.inl rfl⟩ dX12_fits_77 ⟨rfl, hV121, q153⟩ (fun r150 V151 hp152 => ?_)
        obtain ⟨rfl, hV154, hF155, hxp156, hxp157, hxp158, hxp159, hE160⟩ := hp152
        replace hb79 := hb79.trans (pf_call_eq hE160)
        change pm_J X 80 [(0, (3, 90)), (1, (0, a1)), (2, (0, a2)), (3, (0, 0)), (4, (0, x65))] [] 118 V151
        have hF161 := pm_fs.tr hF125 hF155 (by decide) (by decide)
        have e162 : V151 90 25 = y84 := by rw [hF155.2 25 (by decide)]; exact e128
        have e163 : V151 90 42 = z112 := by rw [hF155.2 42 (by decide)]; exact e129
        have e164 : V151 90 43 = z114 := by rw [hF155.2 43 (by decide)]; exact e130
        have e165 : V151 90 50 = 112 := by rw [hF155.2 50 (by decide)]; exact e136
        have e166 : V151 90 26 = 101 := by rw [hF155.2 26 (by decide)]; exact e137
        have hp167 : pm_h1 V151 := (pm_h1.fr hp131 (hF155.2 16 (by decide)) (hF155.1 97 (by decide) (by decide)))
        have hp168 : pm_h2 V151 := (pm_h2.fr hp132 (hF155.2 16 (by decide)) (hF155.2 21 (by decide)) (hF155.1 99 (by decide) (by decide)))
        have hp169 : pm_h3 V151 := (pm_h3.fr hp133 (hF155.2 16 (by decide)) (hF155.2 25 (by decide)) (hF155.1 101 (by decide) (by decide)))
        have hp170 : pm_w1 V151 := (pm_w1.fr hp134 (hF155.2 16 (by decide)) (hF155.2 48 (by decide)) (hF155.2 49 (by decide)) (hF155.1 110 (by decide) (by decide)) (hF155.1 111 (by decide) (by decide)))
        have hp171 : pm_w3 V151 := (pm_w3.fr hp135 (hF155.2 16 (by decide)) (hF155.2 46 (by decide)) (hF155.1 110 (by decide) (by decide)) (hF155.1 111 (by decide) (by decide)))
        have hp172 : pm_w2 V151 := (pm_w2.fr hg123 (hF155.2 16 (by decide)) (hF155.2 51 (by decide)) (hF155.1 112 (by decide) (by decide)))
        obtain ⟨y173, e174⟩ : ∃ y, V151 114 0 = y := ⟨_, rfl⟩
        have b175 := hV154.get 114 0 (lo := 0) (hi := 600) (by decide) (by decide) rfl
        rw [e174] at b175
        replace hb79 := hb79.trans (pf_let_eq e174)
        obtain ⟨y176, e177⟩ : ∃ y, V151 114 1 = y := ⟨_, rfl⟩
        have b178 := hV154.get 114 1 (lo := 0) (hi := 600) (by decide) (by decide) rfl
        rw [e177] at b178
        replace hb79 := hb79.trans (pf_let_eq e177)
        obtain ⟨y179, e180⟩ : ∃ y, V151 114 2 = y := ⟨_, rfl⟩
        have b181 := hV154.get 114 2 (lo := 0) (hi := 600) (by decide) (by decide) rfl
        rw [e180] at b181
        replace hb79 := hb79.trans (pf_let_eq e180)
        obtain ⟨y182, e183⟩ : ∃ y, V151 114 3 = y := ⟨_, rfl⟩
        have b184 := hV154.get 114 3 (lo := 0) (hi := 600) (by decide) (by decide) rfl
        rw [e183] at b184
        replace hb79 := hb79.trans (pf_let_eq e183)
        refine pm_aload_n hC 0 (by decide) dX12_fits_80 rfl ?_
        refine pm_iload_n hC 3 dX12_fits_81 rfl ?_
        refine pm_iconst (v := 1) hC dX12_fits_82 ?_
        refine pm_iadd hC dX12_fits_83 ?_
        change pm_J X 84 [(0, (3, 90)), (1, (0, a1)), (2, (0, a2)), (3, (0, 0)), (4, (0, x65))] [(0, 1), (3, 90)] 118 V151
        refine pm_aload_n hC 0 (by decide) dX12_fits_84 rfl ?_
        obtain ⟨y185, e186⟩ : ∃ y, V151 90 51 = y := ⟨_, rfl⟩
        have b187 := hV154.get 90 51 (lo := 0) (hi := 720000000) (by decide) (by decide) rfl
        rw [e186] at b187
        replace hb79 := hb79.trans (pf_let_eq e186)
        refine pm_getf (v := y185) hC 90 fl_X12_362 rfl rfl (by decide) rfl e186 dX12_fits_85 ?_
        have q191 : 1 ≤ V151 114 1 ∧ V151 114 1 ≤ 181 := by (have e : V151 114 1 = y176 := e177); rw [e]; exact ⟨by omega, by omega⟩
        refine pm_callV (ci := 12) (as := [(0, 1), (1, y185)]) (st := []) hC 90 (fB_X12_multiplies_d1 y185 ⟨by omega, by omega⟩) lm_X12_411 li_X12_multiplies (by decide) (by decide) rfl rfl rfl (by decide) rfl rfl (Nat.le_of_ble_eq_true rfl) ⟨Nat.le_refl _, Or.inl rfl⟩ dX12_fits_88 ⟨rfl, hV154, q191⟩ (fun r188 V189 hp190 => ?_)
        obtain ⟨rfl, hV192, hF193, hxp194, hxp195, hxp196, hxp197, hE198⟩ := hp190
        replace hb79 := hb79.trans (pf_call_eq hE198)
        change pm_J X 91 [(0, (3, 90)), (1, (0, a1)), (2, (0, a2)), (3, (0, 0)), (4, (0, x65))] [] 118 V189
        have hF199 := pm_fs.tr hF161 hF193 (by decide) (by decide)
        have e200 : V189 90 25 = y84 := by rw [hF193.2 25 (by decide)]; exact e162
        have e201 : V189 90 42 = z112 := by rw [hF193.2 42 (by decide)]; exact e163
        have e202 : V189 90 43 = z114 := by rw [hF193.2 43 (by decide)]; exact e164
        have e203 : V189 90 50 = 112 := by rw [hF193.2 50 (by decide)]; exact e165
        have e204 : V189 90 26 = 101 := by rw [hF193.2 26 (by decide)]; exact e166
        have e205 : V189 90 51 = y185 := by rw [hF193.2 51 (by decide)]; exact e186
        have hp206 : pm_h1 V189 := (pm_h1.fr hp167 (hF193.2 16 (by decide)) (hF193.1 97 (by decide) (by decide)))
        have hp207 : pm_h2 V189 := (pm_h2.fr hp168 (hF193.2 16 (by decide)) (hF193.2 21 (by decide)) (hF193.1 99 (by decide) (by decide)))
        have hp208 : pm_h3 V189 := (pm_h3.fr hp169 (hF193.2 16 (by decide)) (hF193.2 25 (by decide)) (hF193.1 101 (by decide) (by decide)))
        have hp209 : pm_w1 V189 := (pm_w1.fr hp170 (hF193.2 16 (by decide)) (hF193.2 48 (by decide)) (hF193.2 49 (by decide)) (hF193.1 110 (by decide) (by decide)) (hF193.1 111 (by decide) (by decide)))
        have hp210 : pm_w3 V189 := (pm_w3.fr hp171 (hF193.2 16 (by decide)) (hF193.2 46 (by decide)) (hF193.1 110 (by decide) (by decide)) (hF193.1 111 (by decide) (by decide)))
        have hp211 : pm_w2 V189 := (pm_w2.fr hp172 (hF193.2 16 (by decide)) (hF193.2 51 (by decide)) (hF193.1 112 (by decide) (by decide)))
        obtain ⟨y212, e213⟩ : ∃ y, V189 114 0 = y := ⟨_, rfl⟩
        have b214 := hV192.get 114 0 (lo := 0) (hi := 600) (by decide) (by decide) rfl
        rw [e213] at b214
        replace hb79 := hb79.trans (pf_let_eq e213)
        obtain ⟨y215, e216⟩ : ∃ y, V189 114 1 = y := ⟨_, rfl⟩
        have b217 := hV192.get 114 1 (lo := 0) (hi := 600) (by decide) (by decide) rfl
        rw [e216] at b217
        replace hb79 := hb79.trans (pf_let_eq e216)
        obtain ⟨y218, e219⟩ : ∃ y, V189 114 2 = y := ⟨_, rfl⟩
        have b220 := hV192.get 114 2 (lo := 0) (hi := 600) (by decide) (by decide) rfl
        rw [e219] at b220
        replace hb79 := hb79.trans (pf_let_eq e219)
        obtain ⟨y221, e222⟩ : ∃ y, V189 114 3 = y := ⟨_, rfl⟩
        have b223 := hV192.get 114 3 (lo := 0) (hi := 600) (by decide) (by decide) rfl
        rw [e222] at b223
        replace hb79 := hb79.trans (pf_let_eq e222)
        obtain ⟨x224, ei225⟩ : ∃ y : Int, x65 + 1 = y := ⟨_, rfl⟩
        replace hb79 := hb79.trans (pf_let_eq ei225)
        refine pm_iinc (y := x224) (lv' := [(4, (0, x224)), (0, (3, 90)), (1, (0, a1)), (2, (0, a2)), (3, (0, 0))]) hC 4 dX12_fits_91 (by decide) rfl ei225 rfl ?_
        refine pm_goto (tgt := 15) hC dX12_fits_94 (by decide) ?_
        refine pm_lvsub [1, 2, 3, 4, 0] (lv' := [(0, (3, 90)), (1, (0, a1)), (2, (0, a2)), (3, (0, 0)), (4, (0, x224))]) rfl ?_
        exact ih83 _ (by omega) x224 V189 ⟨by omega, by omega⟩ hV192 hF199 e219 e222 hp206 hp207 hp208 (by (have e : V189 114 0 = y212 := e213); rw [e]; omega) (by (have e : V189 114 1 = y215 := e216); rw [e]; omega) (hT.trans (pf_val_inl hb79)) rfl
      · skip
        replace hb79 := hb79.trans (if_neg c94)
        refine pm_aload_n hC 0 (by decide) dX12_fits_29 rfl ?_
        have e226 : V67 90 26 = 101 := hV68.one 90 26 (by decide) (by decide) rfl
        refine pm_getf (v := 101) hC 90 fl_X12_43 rfl rfl (by decide) rfl e226 dX12_fits_30 ?_
        refine pm_iconst (v := 5) hC dX12_fits_33 ?_
        refine pm_iload hC 4 dX12_fits_34 rfl ?_
        refine pm_imul hC dX12_fits_36 ?_
        obtain ⟨y227, e228⟩ : ∃ y, V67 101 ((5 * x65) : Int).toNat = y := ⟨_, rfl⟩
        replace hb79 := hb79.trans (pf_let_eq e228)
        have b229 := hV68.get1 101 ((5 * x65) : Int).toNat (lo := 0) (hi := 999) (by decide) (show _ < 300 by omega) ((pm_qe_r (tb := pm_qB) (k := 101) (i := ((5 * x65) : Int).toNat) (m := 5) (r := 0) (l := [(0, 999, 1), (0, 99, 0), (-99, 99, 0), (0, 8, 0), (0, 1, 0)]) rfl rfl (by omega)).trans rfl)
        rw [e228] at b229
        refine pm_iaload (len := 300) (v := y227) hC 101 rfl rfl (by decide) ⟨by omega, by omega⟩ (by decide) e228 dX12_fits_37 ?_
        refine pm_bipush (v := 100) hC dX12_fits_38 (by decide) ?_
        refine pm_idiv hC ⟨by omega, by omega, by omega⟩ ⟨by decide, by decide, by decide⟩ dX12_fits_40 ?_
        refine pm_iload_n hC 2 dX12_fits_41 rfl ?_
        refine pm_icmp_eq (tgt := 48) hC ⟨by omega, by omega⟩ ⟨by omega, by omega⟩ dX12_fits_42 (by decide) (fun c230 => ?_) (fun c230 => ?_)
        · skip
          replace hb79 := hb79.trans (if_pos c230)
          refine pm_aload_n hC 0 (by decide) dX12_fits_48 rfl ?_
          refine pm_iload hC 4 dX12_fits_49 rfl ?_
          refine pm_callV (ci := 12) (as := [(0, x65)]) (st := []) hC 90 (fB_X12_worksAnswer x65 ⟨by omega, by omega⟩) lm_X12_403 li_X12_worksAnswer (by decide) (by decide) rfl rfl rfl (by decide) rfl rfl (Nat.le_of_ble_eq_true rfl) ⟨Nat.le_refl _, Or.inl rfl⟩ dX12_fits_51 ⟨rfl, hV68, (show (x65) < V67 90 25 by omega), hp72, hp74⟩ (fun r231 V232 hp233 => ?_)
          obtain ⟨rfl, hV234, hF235, hq236, hq237, hg238, hg239, hE240⟩ := hp233
          replace hb79 := hb79.trans (pf_call_eq hE240)
          change pm_J X 54 [(0, (3, 90)), (1, (0, a1)), (2, (0, a2)), (3, (0, 0)), (4, (0, x65))] [] 118 V232
          have hF241 := pm_fs.tr hF69 hF235 (by decide) (by decide)
          have e242 : V232 114 2 = y59 := by rw [hF235.1 114 (by decide) (by decide)]; exact e70
          have e243 : V232 114 3 = y62 := by rw [hF235.1 114 (by decide) (by decide)]; exact e71
          have e244 : V232 90 25 = y84 := by rw [hF235.2 25 (by decide)]; exact e85
          have e245 : V232 90 26 = 101 := by rw [hF235.2 26 (by decide)]; exact e226
          have hp246 : pm_h1 V232 := (pm_h1.fr hp72 (hF235.2 16 (by decide)) (hF235.1 97 (by decide) (by decide)))
          have hp247 : pm_h2 V232 := (pm_h2.fr hp73 (hF235.2 16 (by decide)) (hF235.2 21 (by decide)) (hF235.1 99 (by decide) (by decide)))
          have hp248 : pm_h3 V232 := (pm_h3.fr hp74 (hF235.2 16 (by decide)) (hF235.2 25 (by decide)) (hF235.1 101 (by decide) (by decide)))
          obtain ⟨z249, ez250⟩ : ∃ z, V232 90 42 = z := ⟨_, rfl⟩
          rw [ez250] at hq236
          replace hb79 := hb79.trans (pf_let_eq ez250)
          obtain ⟨z251, ez252⟩ : ∃ z, V232 90 43 = z := ⟨_, rfl⟩
          rw [ez252] at hq237
          replace hb79 := hb79.trans (pf_let_eq ez252)
          refine pm_aload_n hC 0 (by decide) dX12_fits_54 rfl ?_
          refine pm_iload_n hC 1 dX12_fits_55 rfl ?_
          have q256 : 1 ≤ V232 90 42 ∧ V232 90 42 ≤ 171 := by (have e : V232 90 42 = z249 := ez250); rw [e]; exact ⟨by omega, by omega⟩
          have q257 : 1 ≤ V232 90 43 ∧ V232 90 43 ≤ 171 := by (have e : V232 90 43 = z251 := ez252); rw [e]; exact ⟨by omega, by omega⟩
          refine pm_callV (ci := 12) (as := [(0, a1)]) (st := []) hC 90 (fB_X12_weighs a1 ⟨by omega, by omega⟩) lm_X12_380 li_X12_weighs (by decide) (by decide) rfl rfl rfl (by decide) rfl rfl (Nat.le_of_ble_eq_true rfl) ⟨Nat.le_refl _, Or.inl rfl⟩ dX12_fits_56 ⟨rfl, hV234, q256, q257, hg238, hp246, hp247, hg239⟩ (fun r253 V254 hp255 => ?_)
          obtain ⟨rfl, hV258, hF259, hg260, hE261⟩ := hp255
          replace hb79 := hb79.trans (pf_call_eq hE261)
          change pm_J X 59 [(0, (3, 90)), (1, (0, a1)), (2, (0, a2)), (3, (0, 0)), (4, (0, x65))] [] 118 V254
          have hF262 := pm_fs.tr hF241 hF259 (by decide) (by decide)
          have e263 : V254 114 2 = y59 := by rw [hF259.1 114 (by decide) (by decide)]; exact e242
          have e264 : V254 114 3 = y62 := by rw [hF259.1 114 (by decide) (by decide)]; exact e243
          have e265 : V254 90 25 = y84 := by rw [hF259.2 25 (by decide)]; exact e244
          have e266 : V254 90 26 = 101 := by rw [hF259.2 26 (by decide)]; exact e245
          have e267 : V254 90 42 = z249 := by rw [hF259.2 42 (by decide)]; exact ez250
          have e268 : V254 90 43 = z251 := by rw [hF259.2 43 (by decide)]; exact ez252
          have hp269 : pm_h1 V254 := (pm_h1.fr hp246 (hF259.2 16 (by decide)) (hF259.1 97 (by decide) (by decide)))
          have hp270 : pm_h2 V254 := (pm_h2.fr hp247 (hF259.2 16 (by decide)) (hF259.2 21 (by decide)) (hF259.1 99 (by decide) (by decide)))
          have hp271 : pm_h3 V254 := (pm_h3.fr hp248 (hF259.2 16 (by decide)) (hF259.2 25 (by decide)) (hF259.1 101 (by decide) (by decide)))
          have hp272 : pm_w1 V254 := (pm_w1.fr hg238 (hF259.2 16 (by decide)) (hF259.2 48 (by decide)) (hF259.2 49 (by decide)) (hF259.1 110 (by decide) (by decide)) (hF259.1 111 (by decide) (by decide)))
          have hp273 : pm_w3 V254 := (pm_w3.fr hg239 (hF259.2 16 (by decide)) (hF259.2 46 (by decide)) (hF259.1 110 (by decide) (by decide)) (hF259.1 111 (by decide) (by decide)))
          refine pm_aload_n hC 0 (by decide) dX12_fits_59 rfl ?_
          refine pm_iload_n hC 3 dX12_fits_60 rfl ?_
          refine pm_aload_n hC 0 (by decide) dX12_fits_61 rfl ?_
          have e274 : V254 90 50 = 112 := hV258.one 90 50 (by decide) (by decide) rfl
          refine pm_getf (v := 112) hC 90 fl_X12_76 rfl rfl (by decide) rfl e274 dX12_fits_62 ?_
          refine pm_aload_n hC 0 (by decide) dX12_fits_65 rfl ?_
          refine pm_getf (v := 101) hC 90 fl_X12_43 rfl rfl (by decide) rfl e266 dX12_fits_66 ?_
          refine pm_iconst (v := 5) hC dX12_fits_69 ?_
          refine pm_iload hC 4 dX12_fits_70 rfl ?_
          refine pm_imul hC dX12_fits_72 ?_
          refine pm_iconst (v := 3) hC dX12_fits_73 ?_
          refine pm_iadd hC dX12_fits_74 ?_
          obtain ⟨y275, e276⟩ : ∃ y, V254 101 (((5 * x65) + 3) : Int).toNat = y := ⟨_, rfl⟩
          replace hb79 := hb79.trans (pf_let_eq e276)
          have b277 := hV258.get 101 (((5 * x65) + 3) : Int).toNat (lo := 0) (hi := 8) (t := 0) (by decide) (show _ < 300 by omega) ((pm_qe_r (tb := pm_qB) (k := 101) (i := (((5 * x65) + 3) : Int).toNat) (m := 5) (r := 3) (l := [(0, 999, 1), (0, 99, 0), (-99, 99, 0), (0, 8, 0), (0, 1, 0)]) rfl rfl (by omega)).trans rfl)
          rw [e276] at b277
          refine pm_iaload (len := 300) (v := y275) hC 101 rfl rfl (by decide) ⟨by omega, by omega⟩ (by decide) e276 dX12_fits_75 ?_
          obtain ⟨y278, e279⟩ : ∃ y, V254 112 (y275 : Int).toNat = y := ⟨_, rfl⟩
          replace hb79 := hb79.trans (pf_let_eq e279)
          have b280 := hV258.get 112 (y275 : Int).toNat (lo := 0) (hi := 80000000) (t := 0) (by decide) (show _ < 9 by omega) rfl
          rw [e279] at b280
          refine pm_laload (len := 9) (v := y278) hC 112 rfl rfl (by decide) ⟨by omega, by omega⟩ (by decide) e279 dX12_fits_76 ?_
          obtain ⟨y281, e282⟩ : ∃ y, V254 114 0 = y := ⟨_, rfl⟩
          have b283 := hV258.get 114 0 (lo := 0) (hi := 600) (by decide) (by decide) rfl
          rw [e282] at b283
          replace hb79 := hb79.trans (pf_let_eq e282)
          obtain ⟨y284, e285⟩ : ∃ y, V254 114 1 = y := ⟨_, rfl⟩
          have b286 := hV258.get 114 1 (lo := 0) (hi := 600) (by decide) (by decide) rfl
          rw [e285] at b286
          replace hb79 := hb79.trans (pf_let_eq e285)
          have q290 : 1 ≤ V254 114 0 ∧ V254 114 0 ≤ 181 := by (have e : V254 114 0 = y281 := e282); rw [e]; exact ⟨by omega, by omega⟩
          refine pm_callV (ci := 12) (as := [(0, 0), (1, y278)]) (st := []) hC 90 (fB_X12_multiplies_d0 y278 ⟨by omega, by omega⟩) lm_X12_411 li_X12_multiplies (by decide) (by decide) rfl rfl rfl (by decide) rfl rfl (Nat.le_of_ble_eq_true rfl) ⟨Nat.le_refl _, Or.inl rfl⟩ dX12_fits_77 ⟨rfl, hV258, q290⟩ (fun r287 V288 hp289 => ?_)
          obtain ⟨rfl, hV291, hF292, hxp293, hxp294, hxp295, hxp296, hE297⟩ := hp289
          replace hb79 := hb79.trans (pf_call_eq hE297)
          change pm_J X 80 [(0, (3, 90)), (1, (0, a1)), (2, (0, a2)), (3, (0, 0)), (4, (0, x65))] [] 118 V288
          have hF298 := pm_fs.tr hF262 hF292 (by decide) (by decide)
          have e299 : V288 90 25 = y84 := by rw [hF292.2 25 (by decide)]; exact e265
          have e300 : V288 90 26 = 101 := by rw [hF292.2 26 (by decide)]; exact e266
          have e301 : V288 90 42 = z249 := by rw [hF292.2 42 (by decide)]; exact e267
          have e302 : V288 90 43 = z251 := by rw [hF292.2 43 (by decide)]; exact e268
          have e303 : V288 90 50 = 112 := by rw [hF292.2 50 (by decide)]; exact e274
          have hp304 : pm_h1 V288 := (pm_h1.fr hp269 (hF292.2 16 (by decide)) (hF292.1 97 (by decide) (by decide)))
          have hp305 : pm_h2 V288 := (pm_h2.fr hp270 (hF292.2 16 (by decide)) (hF292.2 21 (by decide)) (hF292.1 99 (by decide) (by decide)))
          have hp306 : pm_h3 V288 := (pm_h3.fr hp271 (hF292.2 16 (by decide)) (hF292.2 25 (by decide)) (hF292.1 101 (by decide) (by decide)))
          have hp307 : pm_w1 V288 := (pm_w1.fr hp272 (hF292.2 16 (by decide)) (hF292.2 48 (by decide)) (hF292.2 49 (by decide)) (hF292.1 110 (by decide) (by decide)) (hF292.1 111 (by decide) (by decide)))
          have hp308 : pm_w3 V288 := (pm_w3.fr hp273 (hF292.2 16 (by decide)) (hF292.2 46 (by decide)) (hF292.1 110 (by decide) (by decide)) (hF292.1 111 (by decide) (by decide)))
          have hp309 : pm_w2 V288 := (pm_w2.fr hg260 (hF292.2 16 (by decide)) (hF292.2 51 (by decide)) (hF292.1 112 (by decide) (by decide)))
          obtain ⟨y310, e311⟩ : ∃ y, V288 114 0 = y := ⟨_, rfl⟩
          have b312 := hV291.get 114 0 (lo := 0) (hi := 600) (by decide) (by decide) rfl
          rw [e311] at b312
          replace hb79 := hb79.trans (pf_let_eq e311)
          obtain ⟨y313, e314⟩ : ∃ y, V288 114 1 = y := ⟨_, rfl⟩
          have b315 := hV291.get 114 1 (lo := 0) (hi := 600) (by decide) (by decide) rfl
          rw [e314] at b315
          replace hb79 := hb79.trans (pf_let_eq e314)
          obtain ⟨y316, e317⟩ : ∃ y, V288 114 2 = y := ⟨_, rfl⟩
          have b318 := hV291.get 114 2 (lo := 0) (hi := 600) (by decide) (by decide) rfl
          rw [e317] at b318
          replace hb79 := hb79.trans (pf_let_eq e317)
          obtain ⟨y319, e320⟩ : ∃ y, V288 114 3 = y := ⟨_, rfl⟩
          have b321 := hV291.get 114 3 (lo := 0) (hi := 600) (by decide) (by decide) rfl
          rw [e320] at b321
          replace hb79 := hb79.trans (pf_let_eq e320)
          refine pm_aload_n hC 0 (by decide) dX12_fits_80 rfl ?_
          refine pm_iload_n hC 3 dX12_fits_81 rfl ?_
          refine pm_iconst (v := 1) hC dX12_fits_82 ?_
          refine pm_iadd hC dX12_fits_83 ?_
          change pm_J X 84 [(0, (3, 90)), (1, (0, a1)), (2, (0, a2)), (3, (0, 0)), (4, (0, x65))] [(0, 1), (3, 90)] 118 V288
          refine pm_aload_n hC 0 (by decide) dX12_fits_84 rfl ?_
          obtain ⟨y322, e323⟩ : ∃ y, V288 90 51 = y := ⟨_, rfl⟩
          have b324 := hV291.get 90 51 (lo := 0) (hi := 720000000) (by decide) (by decide) rfl
          rw [e323] at b324
          replace hb79 := hb79.trans (pf_let_eq e323)
          refine pm_getf (v := y322) hC 90 fl_X12_362 rfl rfl (by decide) rfl e323 dX12_fits_85 ?_
          have q328 : 1 ≤ V288 114 1 ∧ V288 114 1 ≤ 181 := by (have e : V288 114 1 = y313 := e314); rw [e]; exact ⟨by omega, by omega⟩
          refine pm_callV (ci := 12) (as := [(0, 1), (1, y322)]) (st := []) hC 90 (fB_X12_multiplies_d1 y322 ⟨by omega, by omega⟩) lm_X12_411 li_X12_multiplies (by decide) (by decide) rfl rfl rfl (by decide) rfl rfl (Nat.le_of_ble_eq_true rfl) ⟨Nat.le_refl _, Or.inl rfl⟩ dX12_fits_88 ⟨rfl, hV291, q328⟩ (fun r325 V326 hp327 => ?_)
          obtain ⟨rfl, hV329, hF330, hxp331, hxp332, hxp333, hxp334, hE335⟩ := hp327
          replace hb79 := hb79.trans (pf_call_eq hE335)
          change pm_J X 91 [(0, (3, 90)), (1, (0, a1)), (2, (0, a2)), (3, (0, 0)), (4, (0, x65))] [] 118 V326
          have hF336 := pm_fs.tr hF298 hF330 (by decide) (by decide)
          have e337 : V326 90 25 = y84 := by rw [hF330.2 25 (by decide)]; exact e299
          have e338 : V326 90 26 = 101 := by rw [hF330.2 26 (by decide)]; exact e300
          have e339 : V326 90 42 = z249 := by rw [hF330.2 42 (by decide)]; exact e301
          have e340 : V326 90 43 = z251 := by rw [hF330.2 43 (by decide)]; exact e302
          have e341 : V326 90 50 = 112 := by rw [hF330.2 50 (by decide)]; exact e303
          have e342 : V326 90 51 = y322 := by rw [hF330.2 51 (by decide)]; exact e323
          have hp343 : pm_h1 V326 := (pm_h1.fr hp304 (hF330.2 16 (by decide)) (hF330.1 97 (by decide) (by decide)))
          have hp344 : pm_h2 V326 := (pm_h2.fr hp305 (hF330.2 16 (by decide)) (hF330.2 21 (by decide)) (hF330.1 99 (by decide) (by decide)))
          have hp345 : pm_h3 V326 := (pm_h3.fr hp306 (hF330.2 16 (by decide)) (hF330.2 25 (by decide)) (hF330.1 101 (by decide) (by decide)))
          have hp346 : pm_w1 V326 := (pm_w1.fr hp307 (hF330.2 16 (by decide)) (hF330.2 48 (by decide)) (hF330.2 49 (by decide)) (hF330.1 110 (by decide) (by decide)) (hF330.1 111 (by decide) (by decide)))
          have hp347 : pm_w3 V326 := (pm_w3.fr hp308 (hF330.2 16 (by decide)) (hF330.2 46 (by decide)) (hF330.1 110 (by decide) (by decide)) (hF330.1 111 (by decide) (by decide)))
          have hp348 : pm_w2 V326 := (pm_w2.fr hp309 (hF330.2 16 (by decide)) (hF330.2 51 (by decide)) (hF330.1 112 (by decide) (by decide)))
          obtain ⟨y349, e350⟩ : ∃ y, V326 114 0 = y := ⟨_, rfl⟩
          have b351 := hV329.get 114 0 (lo := 0) (hi := 600) (by decide) (by decide) rfl
          rw [e350] at b351
          replace hb79 := hb79.trans (pf_let_eq e350)
          obtain ⟨y352, e353⟩ : ∃ y, V326 114 1 = y := ⟨_, rfl⟩
          have b354 := hV329.get 114 1 (lo := 0) (hi := 600) (by decide) (by decide) rfl
          rw [e353] at b354
          replace hb79 := hb79.trans (pf_let_eq e353)
          obtain ⟨y355, e356⟩ : ∃ y, V326 114 2 = y := ⟨_, rfl⟩
          have b357 := hV329.get 114 2 (lo := 0) (hi := 600) (by decide) (by decide) rfl
          rw [e356] at b357
          replace hb79 := hb79.trans (pf_let_eq e356)
          obtain ⟨y358, e359⟩ : ∃ y, V326 114 3 = y := ⟨_, rfl⟩
          have b360 := hV329.get 114 3 (lo := 0) (hi := 600) (by decide) (by decide) rfl
          rw [e359] at b360
          replace hb79 := hb79.trans (pf_let_eq e359)
          obtain ⟨x361, ei362⟩ : ∃ y : Int, x65 + 1 = y := ⟨_, rfl⟩
          replace hb79 := hb79.trans (pf_let_eq ei362)
          refine pm_iinc (y := x361) (lv' := [(4, (0, x361)), (0, (3, 90)), (1, (0, a1)), (2, (0, a2)), (3, (0, 0))]) hC 4 dX12_fits_91 (by decide) rfl ei362 rfl ?_
          refine pm_goto (tgt := 15) hC dX12_fits_94 (by decide) ?_
          refine pm_lvsub [1, 2, 3, 4, 0] (lv' := [(0, (3, 90)), (1, (0, a1)), (2, (0, a2)), (3, (0, 0)), (4, (0, x361))]) rfl ?_
          exact ih83 _ (by omega) x361 V326 ⟨by omega, by omega⟩ hV329 hF336 e356 e359 hp343 hp344 hp345 (by (have e : V326 114 0 = y349 := e350); rw [e]; omega) (by (have e : V326 114 1 = y352 := e353); rw [e]; omega) (hT.trans (pf_val_inl hb79)) rfl
        · skip
          replace hb79 := hb79.trans (if_neg c230)
          refine pm_goto (tgt := 91) hC dX12_fits_45 (by decide) ?_
          obtain ⟨x363, ei364⟩ : ∃ y : Int, x65 + 1 = y := ⟨_, rfl⟩
          replace hb79 := hb79.trans (pf_let_eq ei364)
          refine pm_iinc (y := x363) (lv' := [(4, (0, x363)), (0, (3, 90)), (1, (0, a1)), (2, (0, a2)), (3, (0, 0))]) hC 4 dX12_fits_91 (by decide) rfl ei364 rfl ?_
          refine pm_goto (tgt := 15) hC dX12_fits_94 (by decide) ?_
          refine pm_lvsub [1, 2, 3, 4, 0] (lv' := [(0, (3, 90)), (1, (0, a1)), (2, (0, a2)), (3, (0, 0)), (4, (0, x363))]) rfl ?_
          obtain ⟨y365, e366⟩ : ∃ y, V67 114 0 = y := ⟨_, rfl⟩
          have b367 := hV68.get 114 0 (lo := 0) (hi := 600) (by decide) (by decide) rfl
          rw [e366] at b367
          replace hb79 := hb79.trans (pf_let_eq e366)
          obtain ⟨y368, e369⟩ : ∃ y, V67 114 1 = y := ⟨_, rfl⟩
          have b370 := hV68.get 114 1 (lo := 0) (hi := 600) (by decide) (by decide) rfl
          rw [e369] at b370
          replace hb79 := hb79.trans (pf_let_eq e369)
          exact ih83 _ (by omega) x363 V67 ⟨by omega, by omega⟩ hV68 hF69 e70 e71 hp72 hp73 hp74 (by (have e : V67 114 0 = y365 := e366); rw [e]; omega) (by (have e : V67 114 1 = y368 := e369); rw [e]; omega) (hT.trans (pf_val_inl hb79)) rfl
  refine pm_lvsub [1, 2, 3, 4, 0] (lv' := [(0, (3, 90)), (1, (0, a1)), (2, (0, a2)), (3, (0, 0)), (4, (0, 0))]) rfl ?_
  exact L80 _ 0 V40 ⟨by decide, by decide⟩ hV42 hF49 e60 e63 hp50 hp51 hp52 (by (have e : V40 114 0 = y53 := e54); rw [e]; omega) (by (have e : V40 114 1 = y56 := e57); rw [e]; omega) hT rfl
set_option maxHeartbeats 4000000 in
set_option maxRecDepth 100000 in
theorem fB_X12_more (a1 a2 a3 : Int) (h0 : (-2147483648) ≤ a1 ∧ a1 ≤ 2147483647) (h1 : (-2147483648) ≤ a2 ∧ a2 ≤ 2147483647) (h2 : (-2147483648) ≤ a3 ∧ a3 ≤ 2147483647) : pm_K 5 yX12_more cX12_more 5 (some .int) (fun av V => av = [(3, 90), (0, a1), (0, a2), (0, a3)] ∧ pm_oq pm_qB V ∧ pm_h1 V ∧ pm_h2 V ∧ pm_h3 V) (fun _ V r V' => ∃ y, r = some (0, y) ∧ ((-1) ≤ y ∧ y ≤ 2) ∧ pm_oq pm_qB V' ∧ pm_fs [110, 111, 112, 113, 114] [42, 43, 44, 45, 46, 47, 48, 49, 51] V V' ∧ F_X12_more a1 a2 a3 V = (y, V')) := by
  refine pm_MT.of (by decide) ⟨Nat.le_refl _, by decide⟩ (fun av V h => by rw [h.1]; exact (by decide : pm_words [(3, 0), (0, 0), (0, 0), (0, 0)] ≤ 5)) ?_
  rintro X av V0 hC - hR ⟨rfl, hV0, hn_pm_h1, hn_pm_h2, hn_pm_h3⟩
  change pm_J X 0 [(0, (3, 90)), (1, (0, a1)), (2, (0, a2)), (3, (0, a3))] [] 118 V0
  have hT := F_X12_more_eq a1 a2 a3 V0
  refine pm_aload_n hC 0 (by decide) dX12_more_0 rfl ?_
  have e1 : V0 90 15 = 1 := hV0.one 90 15 (by decide) (by decide) rfl
  refine pm_getf (v := 1) hC 90 fl_X12_216 rfl rfl (by decide) rfl e1 dX12_more_1 ?_
  refine pm_if_eq (tgt := 34) hC ⟨by decide, by decide⟩ dX12_more_4 (by decide) (fun c2 => ?_) (fun c2 => ?_)
  · skip
    exfalso; omega
  · skip
    refine pm_iload_n hC 1 dX12_more_7 rfl ?_
    refine pm_callS (as := [(0, a1)]) (st := []) hC (fB_X12_isLaw a1 ⟨by omega, by omega⟩) lm_X12_370 ls_X12_isLaw (by decide) (by decide) rfl rfl (Nat.le_of_ble_eq_true rfl) ⟨Nat.le_refl _, Or.inl rfl⟩ dX12_more_8 ⟨rfl, hV0⟩ (fun r3 V4 hp5 => ?_)
    obtain ⟨y6, rfl, b7, rfl, hE8⟩ := hp5
    replace hT := hT.trans (pf_call_eq hE8)
    change pm_J X 11 [(0, (3, 90)), (1, (0, a1)), (2, (0, a2)), (3, (0, a3))] [(0, y6)] 118 V0
    refine pm_if_eq (tgt := 34) hC ⟨by omega, by omega⟩ dX12_more_11 (by decide) (fun c9 => ?_) (fun c9 => ?_)
    · skip
      replace hT := hT.trans (if_pos c9)
      refine pm_iconst (v := (-1)) hC dX12_more_34 ?_
      exact pm_iret hC hR pm_nar0 ⟨(-1), rfl, ⟨by omega, by omega⟩, hV0, (pm_fs.rf (cs := [110, 111, 112, 113, 114]) (fs := [42, 43, 44, 45, 46, 47, 48, 49, 51]) (V := V0)), hT⟩ dX12_more_35
    · skip
      replace hT := hT.trans (if_neg c9)
      refine pm_iload_n hC 2 dX12_more_14 rfl ?_
      refine pm_callS (as := [(0, a2)]) (st := []) hC (fB_X12_isLaw a2 ⟨by omega, by omega⟩) lm_X12_370 ls_X12_isLaw (by decide) (by decide) rfl rfl (Nat.le_of_ble_eq_true rfl) ⟨Nat.le_refl _, Or.inl rfl⟩ dX12_more_15 ⟨rfl, hV0⟩ (fun r10 V11 hp12 => ?_)
      obtain ⟨y13, rfl, b14, rfl, hE15⟩ := hp12
      replace hT := hT.trans (pf_call_eq hE15)
      change pm_J X 18 [(0, (3, 90)), (1, (0, a1)), (2, (0, a2)), (3, (0, a3))] [(0, y13)] 118 V0
      refine pm_if_eq (tgt := 34) hC ⟨by omega, by omega⟩ dX12_more_18 (by decide) (fun c16 => ?_) (fun c16 => ?_)
      · skip
        replace hT := hT.trans (if_pos c16)
        refine pm_iconst (v := (-1)) hC dX12_more_34 ?_
        exact pm_iret hC hR pm_nar0 ⟨(-1), rfl, ⟨by omega, by omega⟩, hV0, (pm_fs.rf (cs := [110, 111, 112, 113, 114]) (fs := [42, 43, 44, 45, 46, 47, 48, 49, 51]) (V := V0)), hT⟩ dX12_more_35
      · skip
        replace hT := hT.trans (if_neg c16)
        refine pm_iload_n hC 3 dX12_more_21 rfl ?_
        refine pm_iconst (v := (-1)) hC dX12_more_22 ?_
        refine pm_icmp_eq (tgt := 36) hC ⟨by omega, by omega⟩ ⟨by decide, by decide⟩ dX12_more_23 (by decide) (fun c17 => ?_) (fun c17 => ?_)
        · skip
          replace hT := hT.trans (if_pos c17)
          refine pm_aload_n hC 0 (by decide) dX12_more_36 rfl ?_
          refine pm_iload_n hC 2 dX12_more_37 rfl ?_
          refine pm_iload_n hC 3 dX12_more_38 rfl ?_
          refine pm_iconst (v := 0) hC dX12_more_39 ?_
          obtain ⟨y18, e19⟩ : ∃ y, V0 114 0 = y := ⟨_, rfl⟩
          have b20 := hV0.get 114 0 (lo := 0) (hi := 600) (by decide) (by decide) rfl
          rw [e19] at b20
          replace hT := hT.trans (pf_let_eq e19)
          obtain ⟨y21, e22⟩ : ∃ y, V0 114 1 = y := ⟨_, rfl⟩
          have b23 := hV0.get 114 1 (lo := 0) (hi := 600) (by decide) (by decide) rfl
          rw [e22] at b23
          replace hT := hT.trans (pf_let_eq e22)
          obtain ⟨y24, e25⟩ : ∃ y, V0 114 2 = y := ⟨_, rfl⟩
          have b26 := hV0.get 114 2 (lo := 0) (hi := 600) (by decide) (by decide) rfl
          rw [e25] at b26
          replace hT := hT.trans (pf_let_eq e25)
          obtain ⟨y27, e28⟩ : ∃ y, V0 114 3 = y := ⟨_, rfl⟩
          have b29 := hV0.get 114 3 (lo := 0) (hi := 600) (by decide) (by decide) rfl
          rw [e28] at b29
          replace hT := hT.trans (pf_let_eq e28)
          refine pm_callV (ci := 12) (as := [(0, a2), (0, a3), (0, 0)]) (st := []) hC 90 (fB_X12_fits_d0 a2 a3 ⟨by omega, by omega⟩ ⟨by omega, by omega⟩) lm_X12_424 li_X12_fits (by decide) (by decide) rfl rfl rfl (by decide) rfl rfl (Nat.le_of_ble_eq_true rfl) ⟨Nat.le_refl _, Or.inl rfl⟩ dX12_more_40 ⟨rfl, hV0, hn_pm_h1, hn_pm_h2, hn_pm_h3⟩ (fun r30 V31 hp32 => ?_)
          obtain ⟨rfl, hV33, hF34, hxp35, hxp36, hxp37, hxp38, hE39⟩ := hp32
          replace hT := hT.trans (pf_call_eq hE39)
          change pm_J X 43 [(0, (3, 90)), (1, (0, a1)), (2, (0, a2)), (3, (0, a3))] [] 118 V31
          have hF40 := pm_fs.tr (pm_fs.rf (cs := [110, 111, 112, 113, 114]) (fs := [42, 43, 44, 45, 46, 47, 48, 49, 51]) (V := V0)) hF34 (by decide) (by decide)
          have e41 : V31 90 15 = 1 := by rw [hF34.2 15 (by decide)]; exact e1
          have hp42 : pm_h1 V31 := (pm_h1.fr hn_pm_h1 (hF34.2 16 (by decide)) (hF34.1 97 (by decide) (by decide)))
          have hp43 : pm_h2 V31 := (pm_h2.fr hn_pm_h2 (hF34.2 16 (by decide)) (hF34.2 21 (by decide)) (hF34.1 99 (by decide) (by decide)))
          have hp44 : pm_h3 V31 := (pm_h3.fr hn_pm_h3 (hF34.2 16 (by decide)) (hF34.2 25 (by decide)) (hF34.1 101 (by decide) (by decide)))
          obtain ⟨y45, e46⟩ : ∃ y, V31 114 0 = y := ⟨_, rfl⟩
          have b47 := hV33.get 114 0 (lo := 0) (hi := 600) (by decide) (by decide) rfl
          rw [e46] at b47
          replace hT := hT.trans (pf_let_eq e46)
          obtain ⟨y48, e49⟩ : ∃ y, V31 114 1 = y := ⟨_, rfl⟩
          have b50 := hV33.get 114 1 (lo := 0) (hi := 600) (by decide) (by decide) rfl
          rw [e49] at b50
          replace hT := hT.trans (pf_let_eq e49)
          obtain ⟨y51, e52⟩ : ∃ y, V31 114 2 = y := ⟨_, rfl⟩
          have b53 := hV33.get 114 2 (lo := 0) (hi := 600) (by decide) (by decide) rfl
          rw [e52] at b53
          replace hT := hT.trans (pf_let_eq e52)
          obtain ⟨y54, e55⟩ : ∃ y, V31 114 3 = y := ⟨_, rfl⟩
          have b56 := hV33.get 114 3 (lo := 0) (hi := 600) (by decide) (by decide) rfl
          rw [e55] at b56
          replace hT := hT.trans (pf_let_eq e55)
          refine pm_aload_n hC 0 (by decide) dX12_more_43 rfl ?_
          refine pm_callV (ci := 12) (as := []) (st := []) hC 90 fB_X12_keeps lm_X12_427 li_X12_keeps (by decide) (by decide) rfl rfl rfl (by decide) rfl rfl (Nat.le_of_ble_eq_true rfl) ⟨Nat.le_refl _, Or.inl rfl⟩ dX12_more_44 ⟨rfl, hV33⟩ (fun r57 V58 hp59 => ?_)
          obtain ⟨rfl, hV60, hF61, hxp62, hxp63, hxp64, hxp65, hE66⟩ := hp59
          replace hT := hT.trans (pf_call_eq hE66)
          change pm_J X 47 [(0, (3, 90)), (1, (0, a1)), (2, (0, a2)), (3, (0, a3))] [] 118 V58
          have hF67 := pm_fs.tr hF40 hF61 (by decide) (by decide)
          have e68 : V58 90 15 = 1 := by rw [hF61.2 15 (by decide)]; exact e41
          have hp69 : pm_h1 V58 := (pm_h1.fr hp42 (hF61.2 16 (by decide)) (hF61.1 97 (by decide) (by decide)))
          have hp70 : pm_h2 V58 := (pm_h2.fr hp43 (hF61.2 16 (by decide)) (hF61.2 21 (by decide)) (hF61.1 99 (by decide) (by decide)))
          have hp71 : pm_h3 V58 := (pm_h3.fr hp44 (hF61.2 16 (by decide)) (hF61.2 25 (by decide)) (hF61.1 101 (by decide) (by decide)))
          obtain ⟨y72, e73⟩ : ∃ y, V58 114 0 = y := ⟨_, rfl⟩
          have b74 := hV60.get 114 0 (lo := 0) (hi := 600) (by decide) (by decide) rfl
          rw [e73] at b74
          replace hT := hT.trans (pf_let_eq e73)
          obtain ⟨y75, e76⟩ : ∃ y, V58 114 1 = y := ⟨_, rfl⟩
          have b77 := hV60.get 114 1 (lo := 0) (hi := 600) (by decide) (by decide) rfl
          rw [e76] at b77
          replace hT := hT.trans (pf_let_eq e76)
          obtain ⟨y78, e79⟩ : ∃ y, V58 114 2 = y := ⟨_, rfl⟩
          have b80 := hV60.get 114 2 (lo := 0) (hi := 600) (by decide) (by decide) rfl
          rw [e79] at b80
          replace hT := hT.trans (pf_let_eq e79)
          obtain ⟨y81, e82⟩ : ∃ y, V58 114 3 = y := ⟨_, rfl⟩
          have b83 := hV60.get 114 3 (lo := 0) (hi := 600) (by decide) (by decide) rfl
          rw [e82] at b83
          replace hT := hT.trans (pf_let_eq e82)
          refine pm_aload_n hC 0 (by decide) dX12_more_47 rfl ?_
          refine pm_iload_n hC 1 dX12_more_48 rfl ?_
          refine pm_iload_n hC 3 dX12_more_49 rfl ?_
          refine pm_iconst (v := 0) hC dX12_more_50 ?_
          refine pm_callV (ci := 12) (as := [(0, a1), (0, a3), (0, 0)]) (st := []) hC 90 (fB_X12_fits_d0 a1 a3 ⟨by omega, by omega⟩ ⟨by omega, by omega⟩) lm_X12_424 li_X12_fits (by decide) (by decide) rfl rfl rfl (by decide) rfl rfl (Nat.le_of_ble_eq_true rfl) ⟨Nat.le_refl _, Or.inl rfl⟩ dX12_more_51 ⟨rfl, hV60, hp69, hp70, hp71⟩ (fun r84 V85 hp86 => ?_)
          obtain ⟨rfl, hV87, hF88, hxp89, hxp90, hxp91, hxp92, hE93⟩ := hp86
          replace hT := hT.trans (pf_call_eq hE93)
          change pm_J X 54 [(0, (3, 90)), (1, (0, a1)), (2, (0, a2)), (3, (0, a3))] [] 118 V85
          have hF94 := pm_fs.tr hF67 hF88 (by decide) (by decide)
          have e95 : V85 90 15 = 1 := by rw [hF88.2 15 (by decide)]; exact e68
          have hp96 : pm_h1 V85 := (pm_h1.fr hp69 (hF88.2 16 (by decide)) (hF88.1 97 (by decide) (by decide)))
          have hp97 : pm_h2 V85 := (pm_h2.fr hp70 (hF88.2 16 (by decide)) (hF88.2 21 (by decide)) (hF88.1 99 (by decide) (by decide)))
          have hp98 : pm_h3 V85 := (pm_h3.fr hp71 (hF88.2 16 (by decide)) (hF88.2 25 (by decide)) (hF88.1 101 (by decide) (by decide)))
          obtain ⟨y99, e100⟩ : ∃ y, V85 114 0 = y := ⟨_, rfl⟩
          have b101 := hV87.get 114 0 (lo := 0) (hi := 600) (by decide) (by decide) rfl
          rw [e100] at b101
          replace hT := hT.trans (pf_let_eq e100)
          obtain ⟨y102, e103⟩ : ∃ y, V85 114 1 = y := ⟨_, rfl⟩
          have b104 := hV87.get 114 1 (lo := 0) (hi := 600) (by decide) (by decide) rfl
          rw [e103] at b104
          replace hT := hT.trans (pf_let_eq e103)
          obtain ⟨y105, e106⟩ : ∃ y, V85 114 2 = y := ⟨_, rfl⟩
          have b107 := hV87.get 114 2 (lo := 0) (hi := 600) (by decide) (by decide) rfl
          rw [e106] at b107
          replace hT := hT.trans (pf_let_eq e106)
          obtain ⟨y108, e109⟩ : ∃ y, V85 114 3 = y := ⟨_, rfl⟩
          have b110 := hV87.get 114 3 (lo := 0) (hi := 600) (by decide) (by decide) rfl
          rw [e109] at b110
          replace hT := hT.trans (pf_let_eq e109)
          refine pm_aload_n hC 0 (by decide) dX12_more_54 rfl ?_
          have q114 : 0 ≤ V85 114 0 ∧ V85 114 0 ≤ 181 := by (have e : V85 114 0 = y99 := e100); rw [e]; exact ⟨by omega, by omega⟩
          have q115 : 0 ≤ V85 114 1 ∧ V85 114 1 ≤ 181 := by (have e : V85 114 1 = y102 := e103); rw [e]; exact ⟨by omega, by omega⟩
          have q116 : 0 ≤ V85 114 2 ∧ V85 114 2 ≤ 181 := by (have e : V85 114 2 = y105 := e106); rw [e]; exact ⟨by omega, by omega⟩
          have q117 : 0 ≤ V85 114 3 ∧ V85 114 3 ≤ 181 := by (have e : V85 114 3 = y108 := e109); rw [e]; exact ⟨by omega, by omega⟩
          refine pm_callV (ci := 12) (as := []) (st := []) hC 90 fB_X12_against lm_X12_430 li_X12_against (by decide) (by decide) rfl rfl rfl (by decide) rfl rfl (Nat.le_of_ble_eq_true rfl) ⟨Nat.le_refl _, Or.inl rfl⟩ dX12_more_55 ⟨rfl, hV87, q114, q115, q116, q117⟩ (fun r111 V112 hp113 => ?_)
          obtain ⟨y118, rfl, b119, hV120, hF121, hxp122, hxp123, hxp124, hxp125, hE126⟩ := hp113
          replace hT := hT.trans (pf_call_eq hE126)
          change pm_J X 58 [(0, (3, 90)), (1, (0, a1)), (2, (0, a2)), (3, (0, a3))] [(0, y118)] 118 V112
          have hF127 := pm_fs.tr hF94 hF121 (by decide) (by decide)
          have e128 : V112 90 15 = 1 := by rw [hF121.2 15 (by decide)]; exact e95
          have hp129 : pm_h1 V112 := (pm_h1.fr hp96 (hF121.2 16 (by decide)) (hF121.1 97 (by decide) (by decide)))
          have hp130 : pm_h2 V112 := (pm_h2.fr hp97 (hF121.2 16 (by decide)) (hF121.2 21 (by decide)) (hF121.1 99 (by decide) (by decide)))
          have hp131 : pm_h3 V112 := (pm_h3.fr hp98 (hF121.2 16 (by decide)) (hF121.2 25 (by decide)) (hF121.1 101 (by decide) (by decide)))
          obtain ⟨y132, e133⟩ : ∃ y, V112 114 0 = y := ⟨_, rfl⟩
          have b134 := hV120.get 114 0 (lo := 0) (hi := 600) (by decide) (by decide) rfl
          rw [e133] at b134
          replace hT := hT.trans (pf_let_eq e133)
          obtain ⟨y135, e136⟩ : ∃ y, V112 114 1 = y := ⟨_, rfl⟩
          have b137 := hV120.get 114 1 (lo := 0) (hi := 600) (by decide) (by decide) rfl
          rw [e136] at b137
          replace hT := hT.trans (pf_let_eq e136)
          obtain ⟨y138, e139⟩ : ∃ y, V112 114 2 = y := ⟨_, rfl⟩
          have b140 := hV120.get 114 2 (lo := 0) (hi := 600) (by decide) (by decide) rfl
          rw [e139] at b140
          replace hT := hT.trans (pf_let_eq e139)
          obtain ⟨y141, e142⟩ : ∃ y, V112 114 3 = y := ⟨_, rfl⟩
          have b143 := hV120.get 114 3 (lo := 0) (hi := 600) (by decide) (by decide) rfl
          rw [e142] at b143
          replace hT := hT.trans (pf_let_eq e142)
          refine pm_istore (lv' := [(4, (0, y118)), (0, (3, 90)), (1, (0, a1)), (2, (0, a2)), (3, (0, a3))]) hC dX12_more_58 (by decide) rfl ?_
          refine pm_iload hC 0 dX12_more_60 rfl ?_
          refine pm_if_le (tgt := 69) hC ⟨by omega, by omega⟩ dX12_more_62 (by decide) (fun c144 => ?_) (fun c144 => ?_)
          · skip
            replace hT := hT.trans (if_pos c144)
            refine pm_iload hC 0 dX12_more_69 rfl ?_
            refine pm_if_ge (tgt := 78) hC ⟨by omega, by omega⟩ dX12_more_71 (by decide) (fun c145 => ?_) (fun c145 => ?_)
            · skip
              replace hT := hT.trans (if_pos c145)
              refine pm_iconst (v := 0) hC dX12_more_78 ?_
              exact pm_iret hC hR pm_nar0 ⟨0, rfl, ⟨by omega, by omega⟩, hV120, hF127, hT⟩ dX12_more_79
            · skip
              replace hT := hT.trans (if_neg (Int.not_le.mpr c145))
              refine pm_iconst (v := 2) hC dX12_more_74 ?_
              refine pm_goto (tgt := 79) hC dX12_more_75 (by decide) ?_
              exact pm_iret hC hR pm_nar0 ⟨2, rfl, ⟨by omega, by omega⟩, hV120, hF127, hT⟩ dX12_more_79
          · skip
            replace hT := hT.trans (if_neg (Int.not_le.mpr c144))
            refine pm_iconst (v := 1) hC dX12_more_65 ?_
            refine pm_goto (tgt := 79) hC dX12_more_66 (by decide) ?_
            exact pm_iret hC hR pm_nar0 ⟨1, rfl, ⟨by omega, by omega⟩, hV120, hF127, hT⟩ dX12_more_79
        · skip
          replace hT := hT.trans (if_neg c17)
          refine pm_aload_n hC 0 (by decide) dX12_more_26 rfl ?_
          refine pm_iload_n hC 3 dX12_more_27 rfl ?_
          refine pm_callV (ci := 12) (as := [(0, a3)]) (st := []) hC 90 (fB_X12_isPerson a3 ⟨by omega, by omega⟩) lm_X12_302 li_X12_isPerson (by decide) (by decide) rfl rfl rfl (by decide) rfl rfl (Nat.le_of_ble_eq_true rfl) ⟨Nat.le_refl _, Or.inl rfl⟩ dX12_more_28 ⟨rfl, hV0⟩ (fun r146 V147 hp148 => ?_)
          obtain ⟨y149, rfl, b150, rfl, hE151⟩ := hp148
          replace hT := hT.trans (pf_call_eq hE151)
          change pm_J X 31 [(0, (3, 90)), (1, (0, a1)), (2, (0, a2)), (3, (0, a3))] [(0, y149)] 118 V0
          refine pm_if_ne (tgt := 36) hC ⟨by omega, by omega⟩ dX12_more_31 (by decide) (fun c152 => ?_) (fun c152 => ?_)
          · skip
            replace hT := hT.trans (if_pos c152)
            refine pm_aload_n hC 0 (by decide) dX12_more_36 rfl ?_
            refine pm_iload_n hC 2 dX12_more_37 rfl ?_
            refine pm_iload_n hC 3 dX12_more_38 rfl ?_
            refine pm_iconst (v := 0) hC dX12_more_39 ?_
            obtain ⟨y153, e154⟩ : ∃ y, V0 114 0 = y := ⟨_, rfl⟩
            have b155 := hV0.get 114 0 (lo := 0) (hi := 600) (by decide) (by decide) rfl
            rw [e154] at b155
            replace hT := hT.trans (pf_let_eq e154)
            obtain ⟨y156, e157⟩ : ∃ y, V0 114 1 = y := ⟨_, rfl⟩
            have b158 := hV0.get 114 1 (lo := 0) (hi := 600) (by decide) (by decide) rfl
            rw [e157] at b158
            replace hT := hT.trans (pf_let_eq e157)
            obtain ⟨y159, e160⟩ : ∃ y, V0 114 2 = y := ⟨_, rfl⟩
            have b161 := hV0.get 114 2 (lo := 0) (hi := 600) (by decide) (by decide) rfl
            rw [e160] at b161
            replace hT := hT.trans (pf_let_eq e160)
            obtain ⟨y162, e163⟩ : ∃ y, V0 114 3 = y := ⟨_, rfl⟩
            have b164 := hV0.get 114 3 (lo := 0) (hi := 600) (by decide) (by decide) rfl
            rw [e163] at b164
            replace hT := hT.trans (pf_let_eq e163)
            refine pm_callV (ci := 12) (as := [(0, a2), (0, a3), (0, 0)]) (st := []) hC 90 (fB_X12_fits_d0 a2 a3 ⟨by omega, by omega⟩ ⟨by omega, by omega⟩) lm_X12_424 li_X12_fits (by decide) (by decide) rfl rfl rfl (by decide) rfl rfl (Nat.le_of_ble_eq_true rfl) ⟨Nat.le_refl _, Or.inl rfl⟩ dX12_more_40 ⟨rfl, hV0, hn_pm_h1, hn_pm_h2, hn_pm_h3⟩ (fun r165 V166 hp167 => ?_)
            obtain ⟨rfl, hV168, hF169, hxp170, hxp171, hxp172, hxp173, hE174⟩ := hp167
            replace hT := hT.trans (pf_call_eq hE174)
            change pm_J X 43 [(0, (3, 90)), (1, (0, a1)), (2, (0, a2)), (3, (0, a3))] [] 118 V166
            have hF175 := pm_fs.tr (pm_fs.rf (cs := [110, 111, 112, 113, 114]) (fs := [42, 43, 44, 45, 46, 47, 48, 49, 51]) (V := V0)) hF169 (by decide) (by decide)
            have e176 : V166 90 15 = 1 := by rw [hF169.2 15 (by decide)]; exact e1
            have hp177 : pm_h1 V166 := (pm_h1.fr hn_pm_h1 (hF169.2 16 (by decide)) (hF169.1 97 (by decide) (by decide)))
            have hp178 : pm_h2 V166 := (pm_h2.fr hn_pm_h2 (hF169.2 16 (by decide)) (hF169.2 21 (by decide)) (hF169.1 99 (by decide) (by decide)))
            have hp179 : pm_h3 V166 := (pm_h3.fr hn_pm_h3 (hF169.2 16 (by decide)) (hF169.2 25 (by decide)) (hF169.1 101 (by decide) (by decide)))
            obtain ⟨y180, e181⟩ : ∃ y, V166 114 0 = y := ⟨_, rfl⟩
            have b182 := hV168.get 114 0 (lo := 0) (hi := 600) (by decide) (by decide) rfl
            rw [e181] at b182
            replace hT := hT.trans (pf_let_eq e181)
            obtain ⟨y183, e184⟩ : ∃ y, V166 114 1 = y := ⟨_, rfl⟩
            have b185 := hV168.get 114 1 (lo := 0) (hi := 600) (by decide) (by decide) rfl
            rw [e184] at b185
            replace hT := hT.trans (pf_let_eq e184)
            obtain ⟨y186, e187⟩ : ∃ y, V166 114 2 = y := ⟨_, rfl⟩
            have b188 := hV168.get 114 2 (lo := 0) (hi := 600) (by decide) (by decide) rfl
            rw [e187] at b188
            replace hT := hT.trans (pf_let_eq e187)
            obtain ⟨y189, e190⟩ : ∃ y, V166 114 3 = y := ⟨_, rfl⟩
            have b191 := hV168.get 114 3 (lo := 0) (hi := 600) (by decide) (by decide) rfl
            rw [e190] at b191
            replace hT := hT.trans (pf_let_eq e190)
            refine pm_aload_n hC 0 (by decide) dX12_more_43 rfl ?_
            refine pm_callV (ci := 12) (as := []) (st := []) hC 90 fB_X12_keeps lm_X12_427 li_X12_keeps (by decide) (by decide) rfl rfl rfl (by decide) rfl rfl (Nat.le_of_ble_eq_true rfl) ⟨Nat.le_refl _, Or.inl rfl⟩ dX12_more_44 ⟨rfl, hV168⟩ (fun r192 V193 hp194 => ?_)
            obtain ⟨rfl, hV195, hF196, hxp197, hxp198, hxp199, hxp200, hE201⟩ := hp194
            replace hT := hT.trans (pf_call_eq hE201)
            change pm_J X 47 [(0, (3, 90)), (1, (0, a1)), (2, (0, a2)), (3, (0, a3))] [] 118 V193
            have hF202 := pm_fs.tr hF175 hF196 (by decide) (by decide)
            have e203 : V193 90 15 = 1 := by rw [hF196.2 15 (by decide)]; exact e176
            have hp204 : pm_h1 V193 := (pm_h1.fr hp177 (hF196.2 16 (by decide)) (hF196.1 97 (by decide) (by decide)))
            have hp205 : pm_h2 V193 := (pm_h2.fr hp178 (hF196.2 16 (by decide)) (hF196.2 21 (by decide)) (hF196.1 99 (by decide) (by decide)))
            have hp206 : pm_h3 V193 := (pm_h3.fr hp179 (hF196.2 16 (by decide)) (hF196.2 25 (by decide)) (hF196.1 101 (by decide) (by decide)))
            obtain ⟨y207, e208⟩ : ∃ y, V193 114 0 = y := ⟨_, rfl⟩
            have b209 := hV195.get 114 0 (lo := 0) (hi := 600) (by decide) (by decide) rfl
            rw [e208] at b209
            replace hT := hT.trans (pf_let_eq e208)
            obtain ⟨y210, e211⟩ : ∃ y, V193 114 1 = y := ⟨_, rfl⟩
            have b212 := hV195.get 114 1 (lo := 0) (hi := 600) (by decide) (by decide) rfl
            rw [e211] at b212
            replace hT := hT.trans (pf_let_eq e211)
            obtain ⟨y213, e214⟩ : ∃ y, V193 114 2 = y := ⟨_, rfl⟩
            have b215 := hV195.get 114 2 (lo := 0) (hi := 600) (by decide) (by decide) rfl
            rw [e214] at b215
            replace hT := hT.trans (pf_let_eq e214)
            obtain ⟨y216, e217⟩ : ∃ y, V193 114 3 = y := ⟨_, rfl⟩
            have b218 := hV195.get 114 3 (lo := 0) (hi := 600) (by decide) (by decide) rfl
            rw [e217] at b218
            replace hT := hT.trans (pf_let_eq e217)
            refine pm_aload_n hC 0 (by decide) dX12_more_47 rfl ?_
            refine pm_iload_n hC 1 dX12_more_48 rfl ?_
            refine pm_iload_n hC 3 dX12_more_49 rfl ?_
            refine pm_iconst (v := 0) hC dX12_more_50 ?_
            refine pm_callV (ci := 12) (as := [(0, a1), (0, a3), (0, 0)]) (st := []) hC 90 (fB_X12_fits_d0 a1 a3 ⟨by omega, by omega⟩ ⟨by omega, by omega⟩) lm_X12_424 li_X12_fits (by decide) (by decide) rfl rfl rfl (by decide) rfl rfl (Nat.le_of_ble_eq_true rfl) ⟨Nat.le_refl _, Or.inl rfl⟩ dX12_more_51 ⟨rfl, hV195, hp204, hp205, hp206⟩ (fun r219 V220 hp221 => ?_)
            obtain ⟨rfl, hV222, hF223, hxp224, hxp225, hxp226, hxp227, hE228⟩ := hp221
            replace hT := hT.trans (pf_call_eq hE228)
            change pm_J X 54 [(0, (3, 90)), (1, (0, a1)), (2, (0, a2)), (3, (0, a3))] [] 118 V220
            have hF229 := pm_fs.tr hF202 hF223 (by decide) (by decide)
            have e230 : V220 90 15 = 1 := by rw [hF223.2 15 (by decide)]; exact e203
            have hp231 : pm_h1 V220 := (pm_h1.fr hp204 (hF223.2 16 (by decide)) (hF223.1 97 (by decide) (by decide)))
            have hp232 : pm_h2 V220 := (pm_h2.fr hp205 (hF223.2 16 (by decide)) (hF223.2 21 (by decide)) (hF223.1 99 (by decide) (by decide)))
            have hp233 : pm_h3 V220 := (pm_h3.fr hp206 (hF223.2 16 (by decide)) (hF223.2 25 (by decide)) (hF223.1 101 (by decide) (by decide)))
            obtain ⟨y234, e235⟩ : ∃ y, V220 114 0 = y := ⟨_, rfl⟩
            have b236 := hV222.get 114 0 (lo := 0) (hi := 600) (by decide) (by decide) rfl
            rw [e235] at b236
            replace hT := hT.trans (pf_let_eq e235)
            obtain ⟨y237, e238⟩ : ∃ y, V220 114 1 = y := ⟨_, rfl⟩
            have b239 := hV222.get 114 1 (lo := 0) (hi := 600) (by decide) (by decide) rfl
            rw [e238] at b239
            replace hT := hT.trans (pf_let_eq e238)
            obtain ⟨y240, e241⟩ : ∃ y, V220 114 2 = y := ⟨_, rfl⟩
            have b242 := hV222.get 114 2 (lo := 0) (hi := 600) (by decide) (by decide) rfl
            rw [e241] at b242
            replace hT := hT.trans (pf_let_eq e241)
            obtain ⟨y243, e244⟩ : ∃ y, V220 114 3 = y := ⟨_, rfl⟩
            have b245 := hV222.get 114 3 (lo := 0) (hi := 600) (by decide) (by decide) rfl
            rw [e244] at b245
            replace hT := hT.trans (pf_let_eq e244)
            refine pm_aload_n hC 0 (by decide) dX12_more_54 rfl ?_
            have q249 : 0 ≤ V220 114 0 ∧ V220 114 0 ≤ 181 := by (have e : V220 114 0 = y234 := e235); rw [e]; exact ⟨by omega, by omega⟩
            have q250 : 0 ≤ V220 114 1 ∧ V220 114 1 ≤ 181 := by (have e : V220 114 1 = y237 := e238); rw [e]; exact ⟨by omega, by omega⟩
            have q251 : 0 ≤ V220 114 2 ∧ V220 114 2 ≤ 181 := by (have e : V220 114 2 = y240 := e241); rw [e]; exact ⟨by omega, by omega⟩
            have q252 : 0 ≤ V220 114 3 ∧ V220 114 3 ≤ 181 := by (have e : V220 114 3 = y243 := e244); rw [e]; exact ⟨by omega, by omega⟩
            refine pm_callV (ci := 12) (as := []) (st := []) hC 90 fB_X12_against lm_X12_430 li_X12_against (by decide) (by decide) rfl rfl rfl (by decide) rfl rfl (Nat.le_of_ble_eq_true rfl) ⟨Nat.le_refl _, Or.inl rfl⟩ dX12_more_55 ⟨rfl, hV222, q249, q250, q251, q252⟩ (fun r246 V247 hp248 => ?_)
            obtain ⟨y253, rfl, b254, hV255, hF256, hxp257, hxp258, hxp259, hxp260, hE261⟩ := hp248
            replace hT := hT.trans (pf_call_eq hE261)
            change pm_J X 58 [(0, (3, 90)), (1, (0, a1)), (2, (0, a2)), (3, (0, a3))] [(0, y253)] 118 V247
            have hF262 := pm_fs.tr hF229 hF256 (by decide) (by decide)
            have e263 : V247 90 15 = 1 := by rw [hF256.2 15 (by decide)]; exact e230
            have hp264 : pm_h1 V247 := (pm_h1.fr hp231 (hF256.2 16 (by decide)) (hF256.1 97 (by decide) (by decide)))
            have hp265 : pm_h2 V247 := (pm_h2.fr hp232 (hF256.2 16 (by decide)) (hF256.2 21 (by decide)) (hF256.1 99 (by decide) (by decide)))
            have hp266 : pm_h3 V247 := (pm_h3.fr hp233 (hF256.2 16 (by decide)) (hF256.2 25 (by decide)) (hF256.1 101 (by decide) (by decide)))
            obtain ⟨y267, e268⟩ : ∃ y, V247 114 0 = y := ⟨_, rfl⟩
            have b269 := hV255.get 114 0 (lo := 0) (hi := 600) (by decide) (by decide) rfl
            rw [e268] at b269
            replace hT := hT.trans (pf_let_eq e268)
            obtain ⟨y270, e271⟩ : ∃ y, V247 114 1 = y := ⟨_, rfl⟩
            have b272 := hV255.get 114 1 (lo := 0) (hi := 600) (by decide) (by decide) rfl
            rw [e271] at b272
            replace hT := hT.trans (pf_let_eq e271)
            obtain ⟨y273, e274⟩ : ∃ y, V247 114 2 = y := ⟨_, rfl⟩
            have b275 := hV255.get 114 2 (lo := 0) (hi := 600) (by decide) (by decide) rfl
            rw [e274] at b275
            replace hT := hT.trans (pf_let_eq e274)
            obtain ⟨y276, e277⟩ : ∃ y, V247 114 3 = y := ⟨_, rfl⟩
            have b278 := hV255.get 114 3 (lo := 0) (hi := 600) (by decide) (by decide) rfl
            rw [e277] at b278
            replace hT := hT.trans (pf_let_eq e277)
            refine pm_istore (lv' := [(4, (0, y253)), (0, (3, 90)), (1, (0, a1)), (2, (0, a2)), (3, (0, a3))]) hC dX12_more_58 (by decide) rfl ?_
            refine pm_iload hC 0 dX12_more_60 rfl ?_
            refine pm_if_le (tgt := 69) hC ⟨by omega, by omega⟩ dX12_more_62 (by decide) (fun c279 => ?_) (fun c279 => ?_)
            · skip
              replace hT := hT.trans (if_pos c279)
              refine pm_iload hC 0 dX12_more_69 rfl ?_
              refine pm_if_ge (tgt := 78) hC ⟨by omega, by omega⟩ dX12_more_71 (by decide) (fun c280 => ?_) (fun c280 => ?_)
              · skip
                replace hT := hT.trans (if_pos c280)
                refine pm_iconst (v := 0) hC dX12_more_78 ?_
                exact pm_iret hC hR pm_nar0 ⟨0, rfl, ⟨by omega, by omega⟩, hV255, hF262, hT⟩ dX12_more_79
              · skip
                replace hT := hT.trans (if_neg (Int.not_le.mpr c280))
                refine pm_iconst (v := 2) hC dX12_more_74 ?_
                refine pm_goto (tgt := 79) hC dX12_more_75 (by decide) ?_
                exact pm_iret hC hR pm_nar0 ⟨2, rfl, ⟨by omega, by omega⟩, hV255, hF262, hT⟩ dX12_more_79
            · skip
              replace hT := hT.trans (if_neg (Int.not_le.mpr c279))
              refine pm_iconst (v := 1) hC dX12_more_65 ?_
              refine pm_goto (tgt := 79) hC dX12_more_66 (by decide) ?_
              exact pm_iret hC hR pm_nar0 ⟨1, rfl, ⟨by omega, by omega⟩, hV255, hF262, hT⟩ dX12_more_79
          · skip
            replace hT := hT.trans (if_neg (fun q => q c152))
            refine pm_iconst (v := (-1)) hC dX12_more_34 ?_
            exact pm_iret hC hR pm_nar0 ⟨(-1), rfl, ⟨by omega, by omega⟩, hV0, (pm_fs.rf (cs := [110, 111, 112, 113, 114]) (fs := [42, 43, 44, 45, 46, 47, 48, 49, 51]) (V := V0)), hT⟩ dX12_more_35
set_option maxHeartbeats 4000000 in
set_option maxRecDepth 100000 in
theorem fB_X12_best (a1 : Int) (h0 : (-2147483648) ≤ a1 ∧ a1 ≤ 2147483647) : pm_K 5 yX12_best cX12_best 4 (some .int) (fun av V => av = [(3, 90), (0, a1)] ∧ pm_oq pm_qB V ∧ pm_h1 V ∧ pm_h2 V ∧ pm_h3 V) (fun _ V r V' => ∃ y, r = some (0, y) ∧ ((-1) ≤ y ∧ y ≤ 6) ∧ pm_oq pm_qB V' ∧ pm_fs [110, 111, 112, 113, 114] [42, 43, 44, 45, 46, 47, 48, 49, 51] V V' ∧ F_X12_best a1 V = (y, V')) := by
  refine pm_MT.of (by decide) ⟨Nat.le_refl _, by decide⟩ (fun av V h => by rw [h.1]; exact (by decide : pm_words [(3, 0), (0, 0)] ≤ 4)) ?_
  rintro X av V0 hC - hR ⟨rfl, hV0, hn_pm_h1, hn_pm_h2, hn_pm_h3⟩
  change pm_J X 0 [(0, (3, 90)), (1, (0, a1))] [] 118 V0
  have hT := F_X12_best_eq a1 V0
  refine pm_aload_n hC 0 (by decide) dX12_best_0 rfl ?_
  have e1 : V0 90 15 = 1 := hV0.one 90 15 (by decide) (by decide) rfl
  refine pm_getf (v := 1) hC 90 fl_X12_216 rfl rfl (by decide) rfl e1 dX12_best_1 ?_
  refine pm_if_eq (tgt := 20) hC ⟨by decide, by decide⟩ dX12_best_4 (by decide) (fun c2 => ?_) (fun c2 => ?_)
  · skip
    exfalso; omega
  · skip
    refine pm_iload_n hC 1 dX12_best_7 rfl ?_
    refine pm_iconst (v := (-1)) hC dX12_best_8 ?_
    refine pm_icmp_eq (tgt := 22) hC ⟨by omega, by omega⟩ ⟨by decide, by decide⟩ dX12_best_9 (by decide) (fun c3 => ?_) (fun c3 => ?_)
    · skip
      replace hT := hT.trans (if_pos c3)
      refine pm_iconst (v := (-1)) hC dX12_best_22 ?_
      refine pm_istore_n (lv' := [(2, (0, (-1))), (0, (3, 90)), (1, (0, a1))]) hC dX12_best_23 (by decide) rfl ?_
      refine pm_iconst (v := 0) hC dX12_best_24 ?_
      refine pm_istore_n (lv' := [(3, (0, 0)), (2, (0, (-1))), (0, (3, 90)), (1, (0, a1))]) hC dX12_best_25 (by decide) rfl ?_
      obtain ⟨B17, hB18, hT⟩ := pf_loop hT
      have L20 : ∀ (N22 : Nat) (x4 : Int) (x6 : Int) (V8 : pm_M), ((-1) ≤ x4 ∧ x4 ≤ 6) → (0 ≤ x6 ∧ x6 ≤ 7) → pm_oq pm_qB V8 → pm_fs [110, 111, 112, 113, 114] [42, 43, 44, 45, 46, 47, 48, 49, 51] V0 V8 → V8 90 15 = 1 → pm_h1 V8 → pm_h2 V8 → pm_h3 V8 → (x4 = -1 ∨ V8 114 2 ≤ 181) → (x4 = -1 ∨ V8 114 3 ≤ 181) → F_X12_best a1 V0 = pf_val ((0 : Int), V0) B17 (x4, x6, V8) → (Int.toNat (7 - x6)) = N22 → pm_J X 26 [(0, (3, 90)), (1, (0, a1)), (2, (0, x4)), (3, (0, x6))] [] 118 V8 := by
        intro N22
        induction N22 using Nat.strongRecOn with
        | _ N22 ih23 =>
        intro x4 x6 V8 b5 b7 hV9 hF10 e11 hp12 hp13 hp14 hm15 hm16 hT hm21
        have hb19 := congrFun hB18 (x4, x6, V8)
        refine pm_iload_n hC 3 dX12_best_26 rfl ?_
        refine pm_bipush (v := 7) hC dX12_best_27 (by decide) ?_
        refine pm_icmp_ge (tgt := 66) hC ⟨by omega, by omega⟩ ⟨by decide, by decide⟩ dX12_best_29 (by decide) (fun c24 => ?_) (fun c24 => ?_)
        · skip
          replace hb19 := hb19.trans (if_pos c24)
          refine pm_iload_n hC 2 dX12_best_66 rfl ?_
          have hT := hT.trans (pf_val_inr hb19)
          exact pm_iret hC hR pm_nar0 ⟨x4, rfl, ⟨by omega, by omega⟩, hV9, hF10, hT⟩ dX12_best_67
        · skip
          replace hb19 := hb19.trans (if_neg (Int.not_le.mpr c24))
          refine pm_aload_n hC 0 (by decide) dX12_best_32 rfl ?_
          refine pm_iload_n hC 3 dX12_best_33 rfl ?_
          refine pm_iload_n hC 1 dX12_best_34 rfl ?_
          refine pm_iconst (v := 0) hC dX12_best_35 ?_
          obtain ⟨y25, e26⟩ : ∃ y, V8 114 0 = y := ⟨_, rfl⟩
          have b27 := hV9.get 114 0 (lo := 0) (hi := 600) (by decide) (by decide) rfl
          rw [e26] at b27
          replace hb19 := hb19.trans (pf_let_eq e26)
          obtain ⟨y28, e29⟩ : ∃ y, V8 114 1 = y := ⟨_, rfl⟩
          have b30 := hV9.get 114 1 (lo := 0) (hi := 600) (by decide) (by decide) rfl
          rw [e29] at b30
          replace hb19 := hb19.trans (pf_let_eq e29)
          obtain ⟨y31, e32⟩ : ∃ y, V8 114 2 = y := ⟨_, rfl⟩
          have b33 := hV9.get 114 2 (lo := 0) (hi := 600) (by decide) (by decide) rfl
          rw [e32] at b33
          replace hb19 := hb19.trans (pf_let_eq e32)
          obtain ⟨y34, e35⟩ : ∃ y, V8 114 3 = y := ⟨_, rfl⟩
          have b36 := hV9.get 114 3 (lo := 0) (hi := 600) (by decide) (by decide) rfl
          rw [e35] at b36
          replace hb19 := hb19.trans (pf_let_eq e35)
          refine pm_callV (ci := 12) (as := [(0, x6), (0, a1), (0, 0)]) (st := []) hC 90 (fB_X12_fits_d0 x6 a1 ⟨by omega, by omega⟩ ⟨by omega, by omega⟩) lm_X12_424 li_X12_fits (by decide) (by decide) rfl rfl rfl (by decide) rfl rfl (Nat.le_of_ble_eq_true rfl) ⟨Nat.le_refl _, Or.inl rfl⟩ dX12_best_36 ⟨rfl, hV9, hp12, hp13, hp14⟩ (fun r37 V38 hp39 => ?_)
          obtain ⟨rfl, hV40, hF41, hxp42, hxp43, hxp44, hxp45, hE46⟩ := hp39
          replace hb19 := hb19.trans (pf_call_eq hE46)
          change pm_J X 39 [(0, (3, 90)), (1, (0, a1)), (2, (0, x4)), (3, (0, x6))] [] 118 V38
          have hF47 := pm_fs.tr hF10 hF41 (by decide) (by decide)
          have e48 : V38 90 15 = 1 := by rw [hF41.2 15 (by decide)]; exact e11
          have hp49 : pm_h1 V38 := (pm_h1.fr hp12 (hF41.2 16 (by decide)) (hF41.1 97 (by decide) (by decide)))
          have hp50 : pm_h2 V38 := (pm_h2.fr hp13 (hF41.2 16 (by decide)) (hF41.2 21 (by decide)) (hF41.1 99 (by decide) (by decide)))
          have hp51 : pm_h3 V38 := (pm_h3.fr hp14 (hF41.2 16 (by decide)) (hF41.2 25 (by decide)) (hF41.1 101 (by decide) (by decide)))
          obtain ⟨y52, e53⟩ : ∃ y, V38 114 0 = y := ⟨_, rfl⟩
          have b54 := hV40.get 114 0 (lo := 0) (hi := 600) (by decide) (by decide) rfl
          rw [e53] at b54
          replace hb19 := hb19.trans (pf_let_eq e53)
          obtain ⟨y55, e56⟩ : ∃ y, V38 114 1 = y := ⟨_, rfl⟩
          have b57 := hV40.get 114 1 (lo := 0) (hi := 600) (by decide) (by decide) rfl
          rw [e56] at b57
          replace hb19 := hb19.trans (pf_let_eq e56)
          obtain ⟨y58, e59⟩ : ∃ y, V38 114 2 = y := ⟨_, rfl⟩
          have b60 := hV40.get 114 2 (lo := 0) (hi := 600) (by decide) (by decide) rfl
          rw [e59] at b60
          replace hb19 := hb19.trans (pf_let_eq e59)
          obtain ⟨y61, e62⟩ : ∃ y, V38 114 3 = y := ⟨_, rfl⟩
          have b63 := hV40.get 114 3 (lo := 0) (hi := 600) (by decide) (by decide) rfl
          rw [e62] at b63
          replace hb19 := hb19.trans (pf_let_eq e62)
          refine pm_iload_n hC 2 dX12_best_39 rfl ?_
          refine pm_iconst (v := (-1)) hC dX12_best_40 ?_
          refine pm_icmp_eq (tgt := 54) hC ⟨by omega, by omega⟩ ⟨by decide, by decide⟩ dX12_best_41 (by decide) (fun c64 => ?_) (fun c64 => ?_)
          · skip
            replace hb19 := hb19.trans (if_pos c64)
            refine pm_aload_n hC 0 (by decide) dX12_best_54 rfl ?_
            refine pm_callV (ci := 12) (as := []) (st := []) hC 90 fB_X12_keeps lm_X12_427 li_X12_keeps (by decide) (by decide) rfl rfl rfl (by decide) rfl rfl (Nat.le_of_ble_eq_true rfl) ⟨Nat.le_refl _, Or.inl rfl⟩ dX12_best_55 ⟨rfl, hV40⟩ (fun r65 V66 hp67 => ?_)
            obtain ⟨rfl, hV68, hF69, hxp70, hxp71, hxp72, hxp73, hE74⟩ := hp67
            replace hb19 := hb19.trans (pf_call_eq hE74)
            change pm_J X 58 [(0, (3, 90)), (1, (0, a1)), (2, (0, x4)), (3, (0, x6))] [] 118 V66
            have hF75 := pm_fs.tr hF47 hF69 (by decide) (by decide)
            have e76 : V66 90 15 = 1 := by rw [hF69.2 15 (by decide)]; exact e48
            have hp77 : pm_h1 V66 := (pm_h1.fr hp49 (hF69.2 16 (by decide)) (hF69.1 97 (by decide) (by decide)))
            have hp78 : pm_h2 V66 := (pm_h2.fr hp50 (hF69.2 16 (by decide)) (hF69.2 21 (by decide)) (hF69.1 99 (by decide) (by decide)))
            have hp79 : pm_h3 V66 := (pm_h3.fr hp51 (hF69.2 16 (by decide)) (hF69.2 25 (by decide)) (hF69.1 101 (by decide) (by decide)))
            obtain ⟨y80, e81⟩ : ∃ y, V66 114 0 = y := ⟨_, rfl⟩
            have b82 := hV68.get 114 0 (lo := 0) (hi := 600) (by decide) (by decide) rfl
            rw [e81] at b82
            replace hb19 := hb19.trans (pf_let_eq e81)
            obtain ⟨y83, e84⟩ : ∃ y, V66 114 1 = y := ⟨_, rfl⟩
            have b85 := hV68.get 114 1 (lo := 0) (hi := 600) (by decide) (by decide) rfl
            rw [e84] at b85
            replace hb19 := hb19.trans (pf_let_eq e84)
            obtain ⟨y86, e87⟩ : ∃ y, V66 114 2 = y := ⟨_, rfl⟩
            have b88 := hV68.get 114 2 (lo := 0) (hi := 600) (by decide) (by decide) rfl
            rw [e87] at b88
            replace hb19 := hb19.trans (pf_let_eq e87)
            obtain ⟨y89, e90⟩ : ∃ y, V66 114 3 = y := ⟨_, rfl⟩
            have b91 := hV68.get 114 3 (lo := 0) (hi := 600) (by decide) (by decide) rfl
            rw [e90] at b91
            replace hb19 := hb19.trans (pf_let_eq e90)
            refine pm_iload_n hC 3 dX12_best_58 rfl ?_
            refine pm_istore_n (lv' := [(2, (0, x6)), (0, (3, 90)), (1, (0, a1)), (3, (0, x6))]) hC dX12_best_59 (by decide) rfl ?_
            obtain ⟨x92, ei93⟩ : ∃ y : Int, x6 + 1 = y := ⟨_, rfl⟩
            replace hb19 := hb19.trans (pf_let_eq ei93)
            refine pm_iinc (y := x92) (lv' := [(3, (0, x92)), (2, (0, x6)), (0, (3, 90)), (1, (0, a1))]) hC 3 dX12_best_60 (by decide) rfl ei93 rfl ?_
            refine pm_goto (tgt := 26) hC dX12_best_63 (by decide) ?_
            refine pm_lvsub [2, 3, 1, 0] (lv' := [(0, (3, 90)), (1, (0, a1)), (2, (0, x6)), (3, (0, x92))]) rfl ?_
            exact ih23 _ (by omega) x6 x92 V66 ⟨by omega, by omega⟩ ⟨by omega, by omega⟩ hV68 hF75 e76 hp77 hp78 hp79 (by (have e : V66 114 2 = y86 := e87); rw [e]; omega) (by (have e : V66 114 3 = y89 := e90); rw [e]; omega) (hT.trans (pf_val_inl hb19)) rfl
          · skip
            replace hb19 := hb19.trans (if_neg c64)
            refine pm_aload_n hC 0 (by decide) dX12_best_44 rfl ?_
            have q97 : 0 ≤ V38 114 0 ∧ V38 114 0 ≤ 181 := by (have e : V38 114 0 = y52 := e53); rw [e]; exact ⟨by omega, by omega⟩
            have q98 : 0 ≤ V38 114 1 ∧ V38 114 1 ≤ 181 := by (have e : V38 114 1 = y55 := e56); rw [e]; exact ⟨by omega, by omega⟩
            have q99 : 0 ≤ V38 114 2 ∧ V38 114 2 ≤ 181 := by (have e : V38 114 2 = y58 := e59); rw [e]; exact ⟨by omega, by omega⟩
            have q100 : 0 ≤ V38 114 3 ∧ V38 114 3 ≤ 181 := by (have e : V38 114 3 = y61 := e62); rw [e]; exact ⟨by omega, by omega⟩
            refine pm_callV (ci := 12) (as := []) (st := []) hC 90 fB_X12_against lm_X12_430 li_X12_against (by decide) (by decide) rfl rfl rfl (by decide) rfl rfl (Nat.le_of_ble_eq_true rfl) ⟨Nat.le_refl _, Or.inl rfl⟩ dX12_best_45 ⟨rfl, hV40, q97, q98, q99, q100⟩ (fun r94 V95 hp96 => ?_)
            obtain ⟨y101, rfl, b102, hV103, hF104, hxp105, hxp106, hxp107, hxp108, hE109⟩ := hp96
            replace hb19 := hb19.trans (pf_call_eq hE109)
            change pm_J X 48 [(0, (3, 90)), (1, (0, a1)), (2, (0, x4)), (3, (0, x6))] [(0, y101)] 118 V95
            have hF110 := pm_fs.tr hF47 hF104 (by decide) (by decide)
            have e111 : V95 90 15 = 1 := by rw [hF104.2 15 (by decide)]; exact e48
            have hp112 : pm_h1 V95 := (pm_h1.fr hp49 (hF104.2 16 (by decide)) (hF104.1 97 (by decide) (by decide)))
            have hp113 : pm_h2 V95 := (pm_h2.fr hp50 (hF104.2 16 (by decide)) (hF104.2 21 (by decide)) (hF104.1 99 (by decide) (by decide)))
            have hp114 : pm_h3 V95 := (pm_h3.fr hp51 (hF104.2 16 (by decide)) (hF104.2 25 (by decide)) (hF104.1 101 (by decide) (by decide)))
            obtain ⟨y115, e116⟩ : ∃ y, V95 114 0 = y := ⟨_, rfl⟩
            have b117 := hV103.get 114 0 (lo := 0) (hi := 600) (by decide) (by decide) rfl
            rw [e116] at b117
            replace hb19 := hb19.trans (pf_let_eq e116)
            obtain ⟨y118, e119⟩ : ∃ y, V95 114 1 = y := ⟨_, rfl⟩
            have b120 := hV103.get 114 1 (lo := 0) (hi := 600) (by decide) (by decide) rfl
            rw [e119] at b120
            replace hb19 := hb19.trans (pf_let_eq e119)
            obtain ⟨y121, e122⟩ : ∃ y, V95 114 2 = y := ⟨_, rfl⟩
            have b123 := hV103.get 114 2 (lo := 0) (hi := 600) (by decide) (by decide) rfl
            rw [e122] at b123
            replace hb19 := hb19.trans (pf_let_eq e122)
            obtain ⟨y124, e125⟩ : ∃ y, V95 114 3 = y := ⟨_, rfl⟩
            have b126 := hV103.get 114 3 (lo := 0) (hi := 600) (by decide) (by decide) rfl
            rw [e125] at b126
            replace hb19 := hb19.trans (pf_let_eq e125)
            refine pm_if_gt (tgt := 54) hC ⟨by omega, by omega⟩ dX12_best_48 (by decide) (fun c127 => ?_) (fun c127 => ?_)
            · skip
              replace hb19 := hb19.trans (if_pos c127)
              refine pm_aload_n hC 0 (by decide) dX12_best_54 rfl ?_
              refine pm_callV (ci := 12) (as := []) (st := []) hC 90 fB_X12_keeps lm_X12_427 li_X12_keeps (by decide) (by decide) rfl rfl rfl (by decide) rfl rfl (Nat.le_of_ble_eq_true rfl) ⟨Nat.le_refl _, Or.inl rfl⟩ dX12_best_55 ⟨rfl, hV103⟩ (fun r128 V129 hp130 => ?_)
              obtain ⟨rfl, hV131, hF132, hxp133, hxp134, hxp135, hxp136, hE137⟩ := hp130
              replace hb19 := hb19.trans (pf_call_eq hE137)
              change pm_J X 58 [(0, (3, 90)), (1, (0, a1)), (2, (0, x4)), (3, (0, x6))] [] 118 V129
              have hF138 := pm_fs.tr hF110 hF132 (by decide) (by decide)
              have e139 : V129 90 15 = 1 := by rw [hF132.2 15 (by decide)]; exact e111
              have hp140 : pm_h1 V129 := (pm_h1.fr hp112 (hF132.2 16 (by decide)) (hF132.1 97 (by decide) (by decide)))
              have hp141 : pm_h2 V129 := (pm_h2.fr hp113 (hF132.2 16 (by decide)) (hF132.2 21 (by decide)) (hF132.1 99 (by decide) (by decide)))
              have hp142 : pm_h3 V129 := (pm_h3.fr hp114 (hF132.2 16 (by decide)) (hF132.2 25 (by decide)) (hF132.1 101 (by decide) (by decide)))
              obtain ⟨y143, e144⟩ : ∃ y, V129 114 0 = y := ⟨_, rfl⟩
              have b145 := hV131.get 114 0 (lo := 0) (hi := 600) (by decide) (by decide) rfl
              rw [e144] at b145
              replace hb19 := hb19.trans (pf_let_eq e144)
              obtain ⟨y146, e147⟩ : ∃ y, V129 114 1 = y := ⟨_, rfl⟩
              have b148 := hV131.get 114 1 (lo := 0) (hi := 600) (by decide) (by decide) rfl
              rw [e147] at b148
              replace hb19 := hb19.trans (pf_let_eq e147)
              obtain ⟨y149, e150⟩ : ∃ y, V129 114 2 = y := ⟨_, rfl⟩
              have b151 := hV131.get 114 2 (lo := 0) (hi := 600) (by decide) (by decide) rfl
              rw [e150] at b151
              replace hb19 := hb19.trans (pf_let_eq e150)
              obtain ⟨y152, e153⟩ : ∃ y, V129 114 3 = y := ⟨_, rfl⟩
              have b154 := hV131.get 114 3 (lo := 0) (hi := 600) (by decide) (by decide) rfl
              rw [e153] at b154
              replace hb19 := hb19.trans (pf_let_eq e153)
              refine pm_iload_n hC 3 dX12_best_58 rfl ?_
              refine pm_istore_n (lv' := [(2, (0, x6)), (0, (3, 90)), (1, (0, a1)), (3, (0, x6))]) hC dX12_best_59 (by decide) rfl ?_
              obtain ⟨x155, ei156⟩ : ∃ y : Int, x6 + 1 = y := ⟨_, rfl⟩
              replace hb19 := hb19.trans (pf_let_eq ei156)
              refine pm_iinc (y := x155) (lv' := [(3, (0, x155)), (2, (0, x6)), (0, (3, 90)), (1, (0, a1))]) hC 3 dX12_best_60 (by decide) rfl ei156 rfl ?_
              refine pm_goto (tgt := 26) hC dX12_best_63 (by decide) ?_
              refine pm_lvsub [2, 3, 1, 0] (lv' := [(0, (3, 90)), (1, (0, a1)), (2, (0, x6)), (3, (0, x155))]) rfl ?_
              exact ih23 _ (by omega) x6 x155 V129 ⟨by omega, by omega⟩ ⟨by omega, by omega⟩ hV131 hF138 e139 hp140 hp141 hp142 (by (have e : V129 114 2 = y149 := e150); rw [e]; omega) (by (have e : V129 114 3 = y152 := e153); rw [e]; omega) (hT.trans (pf_val_inl hb19)) rfl
            · skip
              replace hb19 := hb19.trans (if_neg (Int.not_lt.mpr c127))
              refine pm_goto (tgt := 60) hC dX12_best_51 (by decide) ?_
              obtain ⟨x157, ei158⟩ : ∃ y : Int, x6 + 1 = y := ⟨_, rfl⟩
              replace hb19 := hb19.trans (pf_let_eq ei158)
              refine pm_iinc (y := x157) (lv' := [(3, (0, x157)), (0, (3, 90)), (1, (0, a1)), (2, (0, x4))]) hC 3 dX12_best_60 (by decide) rfl ei158 rfl ?_
              refine pm_goto (tgt := 26) hC dX12_best_63 (by decide) ?_
              refine pm_lvsub [1, 2, 3, 0] (lv' := [(0, (3, 90)), (1, (0, a1)), (2, (0, x4)), (3, (0, x157))]) rfl ?_
              exact ih23 _ (by omega) x4 x157 V95 ⟨by omega, by omega⟩ ⟨by omega, by omega⟩ hV103 hF110 e111 hp112 hp113 hp114 (by (have e : V95 114 2 = y121 := e122); rw [e]; omega) (by (have e : V95 114 3 = y124 := e125); rw [e]; omega) (hT.trans (pf_val_inl hb19)) rfl
      refine pm_lvsub [2, 3, 1, 0] (lv' := [(0, (3, 90)), (1, (0, a1)), (2, (0, (-1))), (3, (0, 0))]) rfl ?_
      obtain ⟨y159, e160⟩ : ∃ y, V0 114 2 = y := ⟨_, rfl⟩
      have b161 := hV0.get 114 2 (lo := 0) (hi := 600) (by decide) (by decide) rfl
      rw [e160] at b161
      replace hT := hT.trans (pf_let_eq e160)
      obtain ⟨y162, e163⟩ : ∃ y, V0 114 3 = y := ⟨_, rfl⟩
      have b164 := hV0.get 114 3 (lo := 0) (hi := 600) (by decide) (by decide) rfl
      rw [e163] at b164
      replace hT := hT.trans (pf_let_eq e163)
      exact L20 _ (-1) 0 V0 ⟨by decide, by decide⟩ ⟨by decide, by decide⟩ hV0 (pm_fs.rf (cs := [110, 111, 112, 113, 114]) (fs := [42, 43, 44, 45, 46, 47, 48, 49, 51]) (V := V0)) e1 hn_pm_h1 hn_pm_h2 hn_pm_h3 (by (have e : V0 114 2 = y159 := e160); rw [e]; omega) (by (have e : V0 114 3 = y162 := e163); rw [e]; omega) hT rfl
    · skip
      replace hT := hT.trans (if_neg c3)
      refine pm_aload_n hC 0 (by decide) dX12_best_12 rfl ?_
      refine pm_iload_n hC 1 dX12_best_13 rfl ?_
      refine pm_callV (ci := 12) (as := [(0, a1)]) (st := []) hC 90 (fB_X12_isPerson a1 ⟨by omega, by omega⟩) lm_X12_302 li_X12_isPerson (by decide) (by decide) rfl rfl rfl (by decide) rfl rfl (Nat.le_of_ble_eq_true rfl) ⟨Nat.le_refl _, Or.inl rfl⟩ dX12_best_14 ⟨rfl, hV0⟩ (fun r165 V166 hp167 => ?_)
      obtain ⟨y168, rfl, b169, rfl, hE170⟩ := hp167
      replace hT := hT.trans (pf_call_eq hE170)
      change pm_J X 17 [(0, (3, 90)), (1, (0, a1))] [(0, y168)] 118 V0
      refine pm_if_ne (tgt := 22) hC ⟨by omega, by omega⟩ dX12_best_17 (by decide) (fun c171 => ?_) (fun c171 => ?_)
      · skip
        replace hT := hT.trans (if_pos c171)
        refine pm_iconst (v := (-1)) hC dX12_best_22 ?_
        refine pm_istore_n (lv' := [(2, (0, (-1))), (0, (3, 90)), (1, (0, a1))]) hC dX12_best_23 (by decide) rfl ?_
        refine pm_iconst (v := 0) hC dX12_best_24 ?_
        refine pm_istore_n (lv' := [(3, (0, 0)), (2, (0, (-1))), (0, (3, 90)), (1, (0, a1))]) hC dX12_best_25 (by decide) rfl ?_
        obtain ⟨B185, hB186, hT⟩ := pf_loop hT
        have L188 : ∀ (N190 : Nat) (x172 : Int) (x174 : Int) (V176 : pm_M), ((-1) ≤ x172 ∧ x172 ≤ 6) → (0 ≤ x174 ∧ x174 ≤ 7) → pm_oq pm_qB V176 → pm_fs [110, 111, 112, 113, 114] [42, 43, 44, 45, 46, 47, 48, 49, 51] V0 V176 → V176 90 15 = 1 → pm_h1 V176 → pm_h2 V176 → pm_h3 V176 → (x172 = -1 ∨ V176 114 2 ≤ 181) → (x172 = -1 ∨ V176 114 3 ≤ 181) → F_X12_best a1 V0 = pf_val ((0 : Int), V0) B185 (x172, x174, V176) → (Int.toNat (7 - x174)) = N190 → pm_J X 26 [(0, (3, 90)), (1, (0, a1)), (2, (0, x172)), (3, (0, x174))] [] 118 V176 := by
          intro N190
          induction N190 using Nat.strongRecOn with
          | _ N190 ih191 =>
          intro x172 x174 V176 b173 b175 hV177 hF178 e179 hp180 hp181 hp182 hm183 hm184 hT hm189
          have hb187 := congrFun hB186 (x172, x174, V176)
          refine pm_iload_n hC 3 dX12_best_26 rfl ?_
          refine pm_bipush (v := 7) hC dX12_best_27 (by decide) ?_
          refine pm_icmp_ge (tgt := 66) hC ⟨by omega, by omega⟩ ⟨by decide, by decide⟩ dX12_best_29 (by decide) (fun c192 => ?_) (fun c192 => ?_)
          · skip
            replace hb187 := hb187.trans (if_pos c192)
            refine pm_iload_n hC 2 dX12_best_66 rfl ?_
            have hT := hT.trans (pf_val_inr hb187)
            exact pm_iret hC hR pm_nar0 ⟨x172, rfl, ⟨by omega, by omega⟩, hV177, hF178, hT⟩ dX12_best_67
          · skip
            replace hb187 := hb187.trans (if_neg (Int.not_le.mpr c192))
            refine pm_aload_n hC 0 (by decide) dX12_best_32 rfl ?_
            refine pm_iload_n hC 3 dX12_best_33 rfl ?_
            refine pm_iload_n hC 1 dX12_best_34 rfl ?_
            refine pm_iconst (v := 0) hC dX12_best_35 ?_
            obtain ⟨y193, e194⟩ : ∃ y, V176 114 0 = y := ⟨_, rfl⟩
            have b195 := hV177.get 114 0 (lo := 0) (hi := 600) (by decide) (by decide) rfl
            rw [e194] at b195
            replace hb187 := hb187.trans (pf_let_eq e194)
            obtain ⟨y196, e197⟩ : ∃ y, V176 114 1 = y := ⟨_, rfl⟩
            have b198 := hV177.get 114 1 (lo := 0) (hi := 600) (by decide) (by decide) rfl
            rw [e197] at b198
            replace hb187 := hb187.trans (pf_let_eq e197)
            obtain ⟨y199, e200⟩ : ∃ y, V176 114 2 = y := ⟨_, rfl⟩
            have b201 := hV177.get 114 2 (lo := 0) (hi := 600) (by decide) (by decide) rfl
            rw [e200] at b201
            replace hb187 := hb187.trans (pf_let_eq e200)
            obtain ⟨y202, e203⟩ : ∃ y, V176 114 3 = y := ⟨_, rfl⟩
            have b204 := hV177.get 114 3 (lo := 0) (hi := 600) (by decide) (by decide) rfl
            rw [e203] at b204
            replace hb187 := hb187.trans (pf_let_eq e203)
            refine pm_callV (ci := 12) (as := [(0, x174), (0, a1), (0, 0)]) (st := []) hC 90 (fB_X12_fits_d0 x174 a1 ⟨by omega, by omega⟩ ⟨by omega, by omega⟩) lm_X12_424 li_X12_fits (by decide) (by decide) rfl rfl rfl (by decide) rfl rfl (Nat.le_of_ble_eq_true rfl) ⟨Nat.le_refl _, Or.inl rfl⟩ dX12_best_36 ⟨rfl, hV177, hp180, hp181, hp182⟩ (fun r205 V206 hp207 => ?_)
            obtain ⟨rfl, hV208, hF209, hxp210, hxp211, hxp212, hxp213, hE214⟩ := hp207
            replace hb187 := hb187.trans (pf_call_eq hE214)
            change pm_J X 39 [(0, (3, 90)), (1, (0, a1)), (2, (0, x172)), (3, (0, x174))] [] 118 V206
            have hF215 := pm_fs.tr hF178 hF209 (by decide) (by decide)
            have e216 : V206 90 15 = 1 := by rw [hF209.2 15 (by decide)]; exact e179
            have hp217 : pm_h1 V206 := (pm_h1.fr hp180 (hF209.2 16 (by decide)) (hF209.1 97 (by decide) (by decide)))
            have hp218 : pm_h2 V206 := (pm_h2.fr hp181 (hF209.2 16 (by decide)) (hF209.2 21 (by decide)) (hF209.1 99 (by decide) (by decide)))
            have hp219 : pm_h3 V206 := (pm_h3.fr hp182 (hF209.2 16 (by decide)) (hF209.2 25 (by decide)) (hF209.1 101 (by decide) (by decide)))
            obtain ⟨y220, e221⟩ : ∃ y, V206 114 0 = y := ⟨_, rfl⟩
            have b222 := hV208.get 114 0 (lo := 0) (hi := 600) (by decide) (by decide) rfl
            rw [e221] at b222
            replace hb187 := hb187.trans (pf_let_eq e221)
            obtain ⟨y223, e224⟩ : ∃ y, V206 114 1 = y := ⟨_, rfl⟩
            have b225 := hV208.get 114 1 (lo := 0) (hi := 600) (by decide) (by decide) rfl
            rw [e224] at b225
            replace hb187 := hb187.trans (pf_let_eq e224)
            obtain ⟨y226, e227⟩ : ∃ y, V206 114 2 = y := ⟨_, rfl⟩
            have b228 := hV208.get 114 2 (lo := 0) (hi := 600) (by decide) (by decide) rfl
            rw [e227] at b228
            replace hb187 := hb187.trans (pf_let_eq e227)
            obtain ⟨y229, e230⟩ : ∃ y, V206 114 3 = y := ⟨_, rfl⟩
            have b231 := hV208.get 114 3 (lo := 0) (hi := 600) (by decide) (by decide) rfl
            rw [e230] at b231
            replace hb187 := hb187.trans (pf_let_eq e230)
            refine pm_iload_n hC 2 dX12_best_39 rfl ?_
            refine pm_iconst (v := (-1)) hC dX12_best_40 ?_
            refine pm_icmp_eq (tgt := 54) hC ⟨by omega, by omega⟩ ⟨by decide, by decide⟩ dX12_best_41 (by decide) (fun c232 => ?_) (fun c232 => ?_)
            · skip
              replace hb187 := hb187.trans (if_pos c232)
              refine pm_aload_n hC 0 (by decide) dX12_best_54 rfl ?_
              refine pm_callV (ci := 12) (as := []) (st := []) hC 90 fB_X12_keeps lm_X12_427 li_X12_keeps (by decide) (by decide) rfl rfl rfl (by decide) rfl rfl (Nat.le_of_ble_eq_true rfl) ⟨Nat.le_refl _, Or.inl rfl⟩ dX12_best_55 ⟨rfl, hV208⟩ (fun r233 V234 hp235 => ?_)
              obtain ⟨rfl, hV236, hF237, hxp238, hxp239, hxp240, hxp241, hE242⟩ := hp235
              replace hb187 := hb187.trans (pf_call_eq hE242)
              change pm_J X 58 [(0, (3, 90)), (1, (0, a1)), (2, (0, x172)), (3, (0, x174))] [] 118 V234
              have hF243 := pm_fs.tr hF215 hF237 (by decide) (by decide)
              have e244 : V234 90 15 = 1 := by rw [hF237.2 15 (by decide)]; exact e216
              have hp245 : pm_h1 V234 := (pm_h1.fr hp217 (hF237.2 16 (by decide)) (hF237.1 97 (by decide) (by decide)))
              have hp246 : pm_h2 V234 := (pm_h2.fr hp218 (hF237.2 16 (by decide)) (hF237.2 21 (by decide)) (hF237.1 99 (by decide) (by decide)))
              have hp247 : pm_h3 V234 := (pm_h3.fr hp219 (hF237.2 16 (by decide)) (hF237.2 25 (by decide)) (hF237.1 101 (by decide) (by decide)))
              obtain ⟨y248, e249⟩ : ∃ y, V234 114 0 = y := ⟨_, rfl⟩
              have b250 := hV236.get 114 0 (lo := 0) (hi := 600) (by decide) (by decide) rfl
              rw [e249] at b250
              replace hb187 := hb187.trans (pf_let_eq e249)
              obtain ⟨y251, e252⟩ : ∃ y, V234 114 1 = y := ⟨_, rfl⟩
              have b253 := hV236.get 114 1 (lo := 0) (hi := 600) (by decide) (by decide) rfl
              rw [e252] at b253
              replace hb187 := hb187.trans (pf_let_eq e252)
              obtain ⟨y254, e255⟩ : ∃ y, V234 114 2 = y := ⟨_, rfl⟩
              have b256 := hV236.get 114 2 (lo := 0) (hi := 600) (by decide) (by decide) rfl
              rw [e255] at b256
              replace hb187 := hb187.trans (pf_let_eq e255)
              obtain ⟨y257, e258⟩ : ∃ y, V234 114 3 = y := ⟨_, rfl⟩
              have b259 := hV236.get 114 3 (lo := 0) (hi := 600) (by decide) (by decide) rfl
              rw [e258] at b259
              replace hb187 := hb187.trans (pf_let_eq e258)
              refine pm_iload_n hC 3 dX12_best_58 rfl ?_
              refine pm_istore_n (lv' := [(2, (0, x174)), (0, (3, 90)), (1, (0, a1)), (3, (0, x174))]) hC dX12_best_59 (by decide) rfl ?_
              obtain ⟨x260, ei261⟩ : ∃ y : Int, x174 + 1 = y := ⟨_, rfl⟩
              replace hb187 := hb187.trans (pf_let_eq ei261)
              refine pm_iinc (y := x260) (lv' := [(3, (0, x260)), (2, (0, x174)), (0, (3, 90)), (1, (0, a1))]) hC 3 dX12_best_60 (by decide) rfl ei261 rfl ?_
              refine pm_goto (tgt := 26) hC dX12_best_63 (by decide) ?_
              refine pm_lvsub [2, 3, 1, 0] (lv' := [(0, (3, 90)), (1, (0, a1)), (2, (0, x174)), (3, (0, x260))]) rfl ?_
              exact ih191 _ (by omega) x174 x260 V234 ⟨by omega, by omega⟩ ⟨by omega, by omega⟩ hV236 hF243 e244 hp245 hp246 hp247 (by (have e : V234 114 2 = y254 := e255); rw [e]; omega) (by (have e : V234 114 3 = y257 := e258); rw [e]; omega) (hT.trans (pf_val_inl hb187)) rfl
            · skip
              replace hb187 := hb187.trans (if_neg c232)
              refine pm_aload_n hC 0 (by decide) dX12_best_44 rfl ?_
              have q265 : 0 ≤ V206 114 0 ∧ V206 114 0 ≤ 181 := by (have e : V206 114 0 = y220 := e221); rw [e]; exact ⟨by omega, by omega⟩
              have q266 : 0 ≤ V206 114 1 ∧ V206 114 1 ≤ 181 := by (have e : V206 114 1 = y223 := e224); rw [e]; exact ⟨by omega, by omega⟩
              have q267 : 0 ≤ V206 114 2 ∧ V206 114 2 ≤ 181 := by (have e : V206 114 2 = y226 := e227); rw [e]; exact ⟨by omega, by omega⟩
              have q268 : 0 ≤ V206 114 3 ∧ V206 114 3 ≤ 181 := by (have e : V206 114 3 = y229 := e230); rw [e]; exact ⟨by omega, by omega⟩
              refine pm_callV (ci := 12) (as := []) (st := []) hC 90 fB_X12_against lm_X12_430 li_X12_against (by decide) (by decide) rfl rfl rfl (by decide) rfl rfl (Nat.le_of_ble_eq_true rfl) ⟨Nat.le_refl _, Or.inl rfl⟩ dX12_best_45 ⟨rfl, hV208, q265, q266, q267, q268⟩ (fun r262 V263 hp264 => ?_)
              obtain ⟨y269, rfl, b270, hV271, hF272, hxp273, hxp274, hxp275, hxp276, hE277⟩ := hp264
              replace hb187 := hb187.trans (pf_call_eq hE277)
              change pm_J X 48 [(0, (3, 90)), (1, (0, a1)), (2, (0, x172)), (3, (0, x174))] [(0, y269)] 118 V263
              have hF278 := pm_fs.tr hF215 hF272 (by decide) (by decide)
              have e279 : V263 90 15 = 1 := by rw [hF272.2 15 (by decide)]; exact e216
              have hp280 : pm_h1 V263 := (pm_h1.fr hp217 (hF272.2 16 (by decide)) (hF272.1 97 (by decide) (by decide)))
              have hp281 : pm_h2 V263 := (pm_h2.fr hp218 (hF272.2 16 (by decide)) (hF272.2 21 (by decide)) (hF272.1 99 (by decide) (by decide)))
              have hp282 : pm_h3 V263 := (pm_h3.fr hp219 (hF272.2 16 (by decide)) (hF272.2 25 (by decide)) (hF272.1 101 (by decide) (by decide)))
              obtain ⟨y283, e284⟩ : ∃ y, V263 114 0 = y := ⟨_, rfl⟩
              have b285 := hV271.get 114 0 (lo := 0) (hi := 600) (by decide) (by decide) rfl
              rw [e284] at b285
              replace hb187 := hb187.trans (pf_let_eq e284)
              obtain ⟨y286, e287⟩ : ∃ y, V263 114 1 = y := ⟨_, rfl⟩
              have b288 := hV271.get 114 1 (lo := 0) (hi := 600) (by decide) (by decide) rfl
              rw [e287] at b288
              replace hb187 := hb187.trans (pf_let_eq e287)
              obtain ⟨y289, e290⟩ : ∃ y, V263 114 2 = y := ⟨_, rfl⟩
              have b291 := hV271.get 114 2 (lo := 0) (hi := 600) (by decide) (by decide) rfl
              rw [e290] at b291
              replace hb187 := hb187.trans (pf_let_eq e290)
              obtain ⟨y292, e293⟩ : ∃ y, V263 114 3 = y := ⟨_, rfl⟩
              have b294 := hV271.get 114 3 (lo := 0) (hi := 600) (by decide) (by decide) rfl
              rw [e293] at b294
              replace hb187 := hb187.trans (pf_let_eq e293)
              refine pm_if_gt (tgt := 54) hC ⟨by omega, by omega⟩ dX12_best_48 (by decide) (fun c295 => ?_) (fun c295 => ?_)
              · skip
                replace hb187 := hb187.trans (if_pos c295)
                refine pm_aload_n hC 0 (by decide) dX12_best_54 rfl ?_
                refine pm_callV (ci := 12) (as := []) (st := []) hC 90 fB_X12_keeps lm_X12_427 li_X12_keeps (by decide) (by decide) rfl rfl rfl (by decide) rfl rfl (Nat.le_of_ble_eq_true rfl) ⟨Nat.le_refl _, Or.inl rfl⟩ dX12_best_55 ⟨rfl, hV271⟩ (fun r296 V297 hp298 => ?_)
                obtain ⟨rfl, hV299, hF300, hxp301, hxp302, hxp303, hxp304, hE305⟩ := hp298
                replace hb187 := hb187.trans (pf_call_eq hE305)
                change pm_J X 58 [(0, (3, 90)), (1, (0, a1)), (2, (0, x172)), (3, (0, x174))] [] 118 V297
                have hF306 := pm_fs.tr hF278 hF300 (by decide) (by decide)
                have e307 : V297 90 15 = 1 := by rw [hF300.2 15 (by decide)]; exact e279
                have hp308 : pm_h1 V297 := (pm_h1.fr hp280 (hF300.2 16 (by decide)) (hF300.1 97 (by decide) (by decide)))
                have hp309 : pm_h2 V297 := (pm_h2.fr hp281 (hF300.2 16 (by decide)) (hF300.2 21 (by decide)) (hF300.1 99 (by decide) (by decide)))
                have hp310 : pm_h3 V297 := (pm_h3.fr hp282 (hF300.2 16 (by decide)) (hF300.2 25 (by decide)) (hF300.1 101 (by decide) (by decide)))
                obtain ⟨y311, e312⟩ : ∃ y, V297 114 0 = y := ⟨_, rfl⟩
                have b313 := hV299.get 114 0 (lo := 0) (hi := 600) (by decide) (by decide) rfl
                rw [e312] at b313
                replace hb187 := hb187.trans (pf_let_eq e312)
                obtain ⟨y314, e315⟩ : ∃ y, V297 114 1 = y := ⟨_, rfl⟩
                have b316 := hV299.get 114 1 (lo := 0) (hi := 600) (by decide) (by decide) rfl
                rw [e315] at b316
                replace hb187 := hb187.trans (pf_let_eq e315)
                obtain ⟨y317, e318⟩ : ∃ y, V297 114 2 = y := ⟨_, rfl⟩
                have b319 := hV299.get 114 2 (lo := 0) (hi := 600) (by decide) (by decide) rfl
                rw [e318] at b319
                replace hb187 := hb187.trans (pf_let_eq e318)
                obtain ⟨y320, e321⟩ : ∃ y, V297 114 3 = y := ⟨_, rfl⟩
                have b322 := hV299.get 114 3 (lo := 0) (hi := 600) (by decide) (by decide) rfl
                rw [e321] at b322
                replace hb187 := hb187.trans (pf_let_eq e321)
                refine pm_iload_n hC 3 dX12_best_58 rfl ?_
                refine pm_istore_n (lv' := [(2, (0, x174)), (0, (3, 90)), (1, (0, a1)), (3, (0, x174))]) hC dX12_best_59 (by decide) rfl ?_
                obtain ⟨x323, ei324⟩ : ∃ y : Int, x174 + 1 = y := ⟨_, rfl⟩
                replace hb187 := hb187.trans (pf_let_eq ei324)
                refine pm_iinc (y := x323) (lv' := [(3, (0, x323)), (2, (0, x174)), (0, (3, 90)), (1, (0, a1))]) hC 3 dX12_best_60 (by decide) rfl ei324 rfl ?_
                refine pm_goto (tgt := 26) hC dX12_best_63 (by decide) ?_
                refine pm_lvsub [2, 3, 1, 0] (lv' := [(0, (3, 90)), (1, (0, a1)), (2, (0, x174)), (3, (0, x323))]) rfl ?_
                exact ih191 _ (by omega) x174 x323 V297 ⟨by omega, by omega⟩ ⟨by omega, by omega⟩ hV299 hF306 e307 hp308 hp309 hp310 (by (have e : V297 114 2 = y317 := e318); rw [e]; omega) (by (have e : V297 114 3 = y320 := e321); rw [e]; omega) (hT.trans (pf_val_inl hb187)) rfl
              · skip
                replace hb187 := hb187.trans (if_neg (Int.not_lt.mpr c295))
                refine pm_goto (tgt := 60) hC dX12_best_51 (by decide) ?_
                obtain ⟨x325, ei326⟩ : ∃ y : Int, x174 + 1 = y := ⟨_, rfl⟩
                replace hb187 := hb187.trans (pf_let_eq ei326)
                refine pm_iinc (y := x325) (lv' := [(3, (0, x325)), (0, (3, 90)), (1, (0, a1)), (2, (0, x172))]) hC 3 dX12_best_60 (by decide) rfl ei326 rfl ?_
                refine pm_goto (tgt := 26) hC dX12_best_63 (by decide) ?_
                refine pm_lvsub [1, 2, 3, 0] (lv' := [(0, (3, 90)), (1, (0, a1)), (2, (0, x172)), (3, (0, x325))]) rfl ?_
                exact ih191 _ (by omega) x172 x325 V263 ⟨by omega, by omega⟩ ⟨by omega, by omega⟩ hV271 hF278 e279 hp280 hp281 hp282 (by (have e : V263 114 2 = y289 := e290); rw [e]; omega) (by (have e : V263 114 3 = y292 := e293); rw [e]; omega) (hT.trans (pf_val_inl hb187)) rfl
        refine pm_lvsub [2, 3, 1, 0] (lv' := [(0, (3, 90)), (1, (0, a1)), (2, (0, (-1))), (3, (0, 0))]) rfl ?_
        obtain ⟨y327, e328⟩ : ∃ y, V0 114 2 = y := ⟨_, rfl⟩
        have b329 := hV0.get 114 2 (lo := 0) (hi := 600) (by decide) (by decide) rfl
        rw [e328] at b329
        replace hT := hT.trans (pf_let_eq e328)
        obtain ⟨y330, e331⟩ : ∃ y, V0 114 3 = y := ⟨_, rfl⟩
        have b332 := hV0.get 114 3 (lo := 0) (hi := 600) (by decide) (by decide) rfl
        rw [e331] at b332
        replace hT := hT.trans (pf_let_eq e331)
        exact L188 _ (-1) 0 V0 ⟨by decide, by decide⟩ ⟨by decide, by decide⟩ hV0 (pm_fs.rf (cs := [110, 111, 112, 113, 114]) (fs := [42, 43, 44, 45, 46, 47, 48, 49, 51]) (V := V0)) e1 hn_pm_h1 hn_pm_h2 hn_pm_h3 (by (have e : V0 114 2 = y327 := e328); rw [e]; omega) (by (have e : V0 114 3 = y330 := e331); rw [e]; omega) hT rfl
      · skip
        replace hT := hT.trans (if_neg (fun q => q c171))
        refine pm_iconst (v := (-1)) hC dX12_best_20 ?_
        exact pm_iret hC hR pm_nar0 ⟨(-1), rfl, ⟨by omega, by omega⟩, hV0, (pm_fs.rf (cs := [110, 111, 112, 113, 114]) (fs := [42, 43, 44, 45, 46, 47, 48, 49, 51]) (V := V0)), hT⟩ dX12_best_21
set_option maxHeartbeats 4000000 in
set_option maxRecDepth 100000 in
theorem fB_X12_own (a1 a2 : Int) (h0 : (-2147483648) ≤ a1 ∧ a1 ≤ 2147483647) (h1 : (-2147483648) ≤ a2 ∧ a2 ≤ 2147483647) : pm_K 5 yX12_own cX12_own 12 (some .int) (fun av V => av = [(3, 90), (0, a1), (0, a2)] ∧ pm_oq pm_qB V ∧ pm_h1 V ∧ pm_h2 V ∧ pm_h3 V) (fun _ V r V' => ∃ y, r = some (0, y) ∧ ((-2147483648) ≤ y ∧ y ≤ 16) ∧ pm_oq pm_qB V' ∧ pm_fs [100, 110, 111, 112, 113, 114] [42, 43, 44, 45, 46, 47, 48, 49, 51] V V' ∧ F_X12_own a1 a2 V = (y, V')) := by
  refine pm_MT.of (by decide) ⟨Nat.le_refl _, by decide⟩ (fun av V h => by rw [h.1]; exact (by decide : pm_words [(3, 0), (0, 0), (0, 0)] ≤ 12)) ?_
  rintro X av V0 hC - hR ⟨rfl, hV0, hn_pm_h1, hn_pm_h2, hn_pm_h3⟩
  change pm_J X 0 [(0, (3, 90)), (1, (0, a1)), (2, (0, a2))] [] 118 V0
  have hT := F_X12_own_eq a1 a2 V0
  refine pm_aload_n hC 0 (by decide) dX12_own_0 rfl ?_
  refine pm_iload_n hC 1 dX12_own_1 rfl ?_
  refine pm_callV (ci := 12) (as := [(0, a1)]) (st := []) hC 90 (fB_X12_isPerson a1 ⟨by omega, by omega⟩) lm_X12_302 li_X12_isPerson (by decide) (by decide) rfl rfl rfl (by decide) rfl rfl (Nat.le_of_ble_eq_true rfl) ⟨Nat.le_refl _, Or.inl rfl⟩ dX12_own_2 ⟨rfl, hV0⟩ (fun r1 V2 hp3 => ?_)
  obtain ⟨y4, rfl, b5, rfl, hE6⟩ := hp3
  replace hT := hT.trans (pf_call_eq hE6)
  change pm_J X 5 [(0, (3, 90)), (1, (0, a1)), (2, (0, a2))] [(0, y4)] 118 V0
  refine pm_if_eq (tgt := 17) hC ⟨by omega, by omega⟩ dX12_own_5 (by decide) (fun c7 => ?_) (fun c7 => ?_)
  · skip
    replace hT := hT.trans (if_pos c7)
    refine pm_ldcw (v := (-2147483648)) hC 7000 dX12_own_17 (by decide +kernel) ?_
    exact pm_iret hC hR pm_nar0 ⟨(-2147483648), rfl, ⟨by omega, by omega⟩, hV0, (pm_fs.rf (cs := [100, 110, 111, 112, 113, 114]) (fs := [42, 43, 44, 45, 46, 47, 48, 49, 51]) (V := V0)), hT⟩ dX12_own_20
  · skip
    replace hT := hT.trans (if_neg c7)
    refine pm_iload_n hC 2 dX12_own_8 rfl ?_
    refine pm_iconst (v := 0) hC dX12_own_9 ?_
    refine pm_iconst (v := 2) hC dX12_own_10 ?_
    refine pm_callS (as := [(0, a2), (0, 0), (0, 2)]) (st := []) hC (fB_X12_in a2 0 2 ⟨by omega, by omega⟩ ⟨by decide, by decide⟩ ⟨by decide, by decide⟩) lm_X12_98 ls_X12_in (by decide) (by decide) rfl rfl (Nat.le_of_ble_eq_true rfl) ⟨Nat.le_refl _, Or.inl rfl⟩ dX12_own_11 ⟨rfl, hV0⟩ (fun r8 V9 hp10 => ?_)
    obtain ⟨y11, rfl, b12, rfl, hE13⟩ := hp10
    replace hT := hT.trans (pf_call_eq hE13)
    change pm_J X 14 [(0, (3, 90)), (1, (0, a1)), (2, (0, a2))] [(0, y11)] 118 V0
    refine pm_if_ne (tgt := 21) hC ⟨by omega, by omega⟩ dX12_own_14 (by decide) (fun c14 => ?_) (fun c14 => ?_)
    · skip
      replace hT := hT.trans (if_pos c14)
      refine pm_iconst (v := 4) hC dX12_own_21 ?_
      refine pm_iload_n hC 1 dX12_own_22 rfl ?_
      refine pm_imul hC dX12_own_23 ?_
      refine pm_istore_n (lv' := [(3, (0, (4 * a1))), (0, (3, 90)), (1, (0, a1)), (2, (0, a2))]) hC dX12_own_24 (by decide) rfl ?_
      refine pm_aload_n hC 1 (by decide) dX12_own_25 rfl ?_
      have e15 : V0 90 24 = 100 := hV0.one 90 24 (by decide) (by decide) rfl
      refine pm_getf (v := 100) hC 90 fl_X12_40 rfl rfl (by decide) rfl e15 dX12_own_26 ?_
      refine pm_iload_n hC 0 dX12_own_29 rfl ?_
      obtain ⟨y16, e17⟩ : ∃ y, V0 100 ((4 * a1) : Int).toNat = y := ⟨_, rfl⟩
      replace hT := hT.trans (pf_let_eq e17)
      have b18 := hV0.get 100 ((4 * a1) : Int).toNat (lo := (-30)) (hi := 30) (t := 0) (by decide) (show _ < 40 by omega) ((pm_qe_r (tb := pm_qB) (k := 100) (i := ((4 * a1) : Int).toNat) (m := 4) (r := 0) (l := [(-30, 30, 0), (-30, 30, 0), (0, 16, 0), (0, 3, 0)]) rfl rfl (by omega)).trans rfl)
      rw [e17] at b18
      refine pm_iaload (len := 40) (v := y16) hC 100 rfl rfl (by decide) ⟨by omega, by omega⟩ (by decide) e17 dX12_own_30 ?_
      refine pm_istore (lv' := [(4, (0, y16)), (3, (0, (4 * a1))), (0, (3, 90)), (1, (0, a1)), (2, (0, a2))]) hC dX12_own_31 (by decide) rfl ?_
      refine pm_aload_n hC 2 (by decide) dX12_own_33 rfl ?_
      refine pm_getf (v := 100) hC 90 fl_X12_40 rfl rfl (by decide) rfl e15 dX12_own_34 ?_
      refine pm_iload_n hC 1 dX12_own_37 rfl ?_
      refine pm_iconst (v := 1) hC dX12_own_38 ?_
      refine pm_iadd hC dX12_own_39 ?_
      obtain ⟨y19, e20⟩ : ∃ y, V0 100 (((4 * a1) + 1) : Int).toNat = y := ⟨_, rfl⟩
      replace hT := hT.trans (pf_let_eq e20)
      have b21 := hV0.get 100 (((4 * a1) + 1) : Int).toNat (lo := (-30)) (hi := 30) (t := 0) (by decide) (show _ < 40 by omega) ((pm_qe_r (tb := pm_qB) (k := 100) (i := (((4 * a1) + 1) : Int).toNat) (m := 4) (r := 1) (l := [(-30, 30, 0), (-30, 30, 0), (0, 16, 0), (0, 3, 0)]) rfl rfl (by omega)).trans rfl)
      rw [e20] at b21
      refine pm_iaload (len := 40) (v := y19) hC 100 rfl rfl (by decide) ⟨by omega, by omega⟩ (by decide) e20 dX12_own_40 ?_
      refine pm_istore (lv' := [(5, (0, y19)), (4, (0, y16)), (3, (0, (4 * a1))), (0, (3, 90)), (1, (0, a1)), (2, (0, a2))]) hC dX12_own_41 (by decide) rfl ?_
      refine pm_aload_n hC 3 (by decide) dX12_own_43 rfl ?_
      refine pm_getf (v := 100) hC 90 fl_X12_40 rfl rfl (by decide) rfl e15 dX12_own_44 ?_
      refine pm_iload_n hC 2 dX12_own_47 rfl ?_
      refine pm_iconst (v := 2) hC dX12_own_48 ?_
      refine pm_iadd hC dX12_own_49 ?_
      obtain ⟨y22, e23⟩ : ∃ y, V0 100 (((4 * a1) + 2) : Int).toNat = y := ⟨_, rfl⟩
      replace hT := hT.trans (pf_let_eq e23)
      have b24 := hV0.get 100 (((4 * a1) + 2) : Int).toNat (lo := 0) (hi := 16) (t := 0) (by decide) (show _ < 40 by omega) ((pm_qe_r (tb := pm_qB) (k := 100) (i := (((4 * a1) + 2) : Int).toNat) (m := 4) (r := 2) (l := [(-30, 30, 0), (-30, 30, 0), (0, 16, 0), (0, 3, 0)]) rfl rfl (by omega)).trans rfl)
      rw [e23] at b24
      refine pm_iaload (len := 40) (v := y22) hC 100 rfl rfl (by decide) ⟨by omega, by omega⟩ (by decide) e23 dX12_own_50 ?_
      refine pm_istore (lv' := [(6, (0, y22)), (5, (0, y19)), (4, (0, y16)), (3, (0, (4 * a1))), (0, (3, 90)), (1, (0, a1)), (2, (0, a2))]) hC dX12_own_51 (by decide) rfl ?_
      refine pm_ldcw (v := (-2147483648)) hC 7000 dX12_own_53 (by decide +kernel) ?_
      refine pm_istore (lv' := [(7, (0, (-2147483648))), (6, (0, y22)), (5, (0, y19)), (4, (0, y16)), (3, (0, (4 * a1))), (0, (3, 90)), (1, (0, a1)), (2, (0, a2))]) hC dX12_own_56 (by decide) rfl ?_
      refine pm_iconst (v := 0) hC dX12_own_58 ?_
      refine pm_istore (lv' := [(8, (0, 0)), (7, (0, (-2147483648))), (6, (0, y22)), (5, (0, y19)), (4, (0, y16)), (3, (0, (4 * a1))), (0, (3, 90)), (1, (0, a1)), (2, (0, a2))]) hC dX12_own_59 (by decide) rfl ?_
      refine pm_iload_n hC 8 dX12_own_61 rfl ?_
      refine pm_iconst (v := 2) hC dX12_own_62 ?_
      refine pm_icmp_ne (tgt := 138) hC ⟨by omega, by omega⟩ ⟨by decide, by decide⟩ dX12_own_63 (by decide) (fun c25 => ?_) (fun c25 => ?_)
      · skip
        replace hT := hT.trans (if_pos c25)
        refine pm_bipush (v := (-12)) hC dX12_own_138 (by decide) ?_
        refine pm_istore (lv' := [(9, (0, (-12))), (8, (0, 0)), (7, (0, (-2147483648))), (6, (0, y22)), (5, (0, y19)), (4, (0, y16)), (3, (0, (4 * a1))), (0, (3, 90)), (1, (0, a1)), (2, (0, a2))]) hC dX12_own_140 (by decide) rfl ?_
        obtain ⟨B42, hB43, hT⟩ := pf_loop hT
        have L45 : ∀ (N47 : Nat) (x26 : Int) (x28 : Int) (x30 : Int) (V33 : pm_M), ((-2147483648) ≤ x26 ∧ x26 ≤ 12) → ((-12) ≤ x28 ∧ x28 ≤ 12) → ((-12) ≤ x30 ∧ x30 ≤ 13) → (x26 = -2147483648 ∨ -12 ≤ x26) → pm_oq pm_qB V33 → pm_fs [100, 110, 111, 112, 113, 114] [42, 43, 44, 45, 46, 47, 48, 49, 51] V0 V33 → V33 90 24 = 100 → pm_h1 V33 → pm_h2 V33 → pm_h3 V33 → (x26 = -2147483648 ∨ V33 114 2 ≤ 181) → (x26 = -2147483648 ∨ V33 114 3 ≤ 181) → F_X12_own a1 a2 V0 = pf_val ((0 : Int), V0) B42 (x26, x28, x30, V33) → (Int.toNat (13 - x30)) = N47 → pm_J X 142 [(0, (3, 90)), (1, (0, a1)), (2, (0, a2)), (3, (0, (4 * a1))), (4, (0, y16)), (5, (0, y19)), (6, (0, y22)), (7, (0, x26)), (8, (0, x28)), (9, (0, x30))] [] 118 V33 := by
          intro N47
          induction N47 using Nat.strongRecOn with
          | _ N47 ih48 =>
          intro x26 x28 x30 V33 b27 b29 b31 b32 hV34 hF35 e36 hp37 hp38 hp39 hm40 hm41 hT hm46
          have hb44 := congrFun hB43 (x26, x28, x30, V33)
          refine pm_iload hC 9 dX12_own_142 rfl ?_
          refine pm_bipush (v := 12) hC dX12_own_144 (by decide) ?_
          refine pm_icmp_gt (tgt := 265) hC ⟨by omega, by omega⟩ ⟨by decide, by decide⟩ dX12_own_146 (by decide) (fun c49 => ?_) (fun c49 => ?_)
          · skip
            replace hb44 := hb44.trans (if_pos c49)
            refine pm_aload_n hC 0 (by decide) dX12_own_265 rfl ?_
            refine pm_getf (v := 100) hC 90 fl_X12_40 rfl rfl (by decide) rfl e36 dX12_own_266 ?_
            refine pm_iload_n hC 3 dX12_own_269 rfl ?_
            refine pm_iload hC 4 dX12_own_270 rfl ?_
            refine pm_iastore (len := 40) hC 100 rfl rfl (by decide) ⟨by omega, by omega⟩ (by decide) dX12_own_272 ?_
            refine pm_aload_n hC 0 (by decide) dX12_own_273 rfl ?_
            refine pm_getf (v := 100) hC 90 fl_X12_40 rfl rfl (by decide) rfl e36 dX12_own_274 ?_
            refine pm_iload_n hC 3 dX12_own_277 rfl ?_
            refine pm_iconst (v := 1) hC dX12_own_278 ?_
            refine pm_iadd hC dX12_own_279 ?_
            refine pm_iload hC 5 dX12_own_280 rfl ?_
            refine pm_iastore (len := 40) hC 100 rfl rfl (by decide) ⟨by omega, by omega⟩ (by decide) dX12_own_282 ?_
            refine pm_iload_n hC 2 dX12_own_283 rfl ?_
            refine pm_if_ne (tgt := 292) hC ⟨by omega, by omega⟩ dX12_own_284 (by decide) (fun c50 => ?_) (fun c50 => ?_)
            · skip
              replace hb44 := hb44.trans (if_pos c50)
              refine pm_iload hC 8 dX12_own_292 rfl ?_
              have hT := hT.trans (pf_val_inr hb44)
              exact pm_iret hC hR pm_nar0 ⟨x28, rfl, ⟨by omega, by omega⟩, ((hV34.put 100 ((4 * a1) : Int).toNat (x := y16) (lo := (-30)) (hi := 30) ((pm_qe_r (tb := pm_qB) (k := 100) (i := ((4 * a1) : Int).toNat) (m := 4) (r := 0) (l := [(-30, 30, 0), (-30, 30, 0), (0, 16, 0), (0, 3, 0)]) rfl rfl (by omega)).trans rfl) ⟨by omega, by omega⟩).put 100 (((4 * a1) + 1) : Int).toNat (x := y19) (lo := (-30)) (hi := 30) ((pm_qe_r (tb := pm_qB) (k := 100) (i := (((4 * a1) + 1) : Int).toNat) (m := 4) (r := 1) (l := [(-30, 30, 0), (-30, 30, 0), (0, 16, 0), (0, 3, 0)]) rfl rfl (by omega)).trans rfl) ⟨by omega, by omega⟩), ((hF35.up 100 ((4 * a1) : Int).toNat y16 (by decide) rfl).up 100 (((4 * a1) + 1) : Int).toNat y19 (by decide) rfl), hT⟩ dX12_own_294
            · skip
              replace hb44 := hb44.trans (if_neg (fun q => q c50))
              refine pm_iload hC 7 dX12_own_287 rfl ?_
              refine pm_goto (tgt := 294) hC dX12_own_289 (by decide) ?_
              have hT := hT.trans (pf_val_inr hb44)
              exact pm_iret hC hR pm_nar0 ⟨x26, rfl, ⟨by omega, by omega⟩, ((hV34.put 100 ((4 * a1) : Int).toNat (x := y16) (lo := (-30)) (hi := 30) ((pm_qe_r (tb := pm_qB) (k := 100) (i := ((4 * a1) : Int).toNat) (m := 4) (r := 0) (l := [(-30, 30, 0), (-30, 30, 0), (0, 16, 0), (0, 3, 0)]) rfl rfl (by omega)).trans rfl) ⟨by omega, by omega⟩).put 100 (((4 * a1) + 1) : Int).toNat (x := y19) (lo := (-30)) (hi := 30) ((pm_qe_r (tb := pm_qB) (k := 100) (i := (((4 * a1) + 1) : Int).toNat) (m := 4) (r := 1) (l := [(-30, 30, 0), (-30, 30, 0), (0, 16, 0), (0, 3, 0)]) rfl rfl (by omega)).trans rfl) ⟨by omega, by omega⟩), ((hF35.up 100 ((4 * a1) : Int).toNat y16 (by decide) rfl).up 100 (((4 * a1) + 1) : Int).toNat y19 (by decide) rfl), hT⟩ dX12_own_294
          · skip
            replace hb44 := hb44.trans (if_neg (Int.not_lt.mpr c49))
            refine pm_bipush (v := (-12)) hC dX12_own_149 (by decide) ?_
            refine pm_istore (lv' := [(10, (0, (-12))), (0, (3, 90)), (1, (0, a1)), (2, (0, a2)), (3, (0, (4 * a1))), (4, (0, y16)), (5, (0, y19)), (6, (0, y22)), (7, (0, x26)), (8, (0, x28)), (9, (0, x30))]) hC dX12_own_151 (by decide) rfl ?_
            obtain ⟨B67, hB68, hb44⟩ := pf_loop hb44
            have L70 : ∀ (N72 : Nat) (x51 : Int) (x53 : Int) (x55 : Int) (V58 : pm_M), ((-2147483648) ≤ x51 ∧ x51 ≤ 12) → ((-12) ≤ x53 ∧ x53 ≤ 12) → ((-12) ≤ x55 ∧ x55 ≤ 13) → (x51 = -2147483648 ∨ -12 ≤ x51) → pm_oq pm_qB V58 → pm_fs [100, 110, 111, 112, 113, 114] [42, 43, 44, 45, 46, 47, 48, 49, 51] V0 V58 → V58 90 24 = 100 → pm_h1 V58 → pm_h2 V58 → pm_h3 V58 → (x51 = -2147483648 ∨ V58 114 2 ≤ 181) → (x51 = -2147483648 ∨ V58 114 3 ≤ 181) → B42 (x26, x28, x30, V33) = pf_val (.inr ((0 : Int), V0)) B67 (x51, x53, x55, V58) → (Int.toNat (13 - x55)) = N72 → pm_J X 153 [(0, (3, 90)), (1, (0, a1)), (2, (0, a2)), (3, (0, (4 * a1))), (4, (0, y16)), (5, (0, y19)), (6, (0, y22)), (7, (0, x51)), (8, (0, x53)), (9, (0, x30)), (10, (0, x55))] [] 118 V58 := by
              intro N72
              induction N72 using Nat.strongRecOn with
              | _ N72 ih73 =>
              intro x51 x53 x55 V58 b52 b54 b56 b57 hV59 hF60 e61 hp62 hp63 hp64 hm65 hm66 hb44 hm71
              have hb69 := congrFun hB68 (x51, x53, x55, V58)
              refine pm_iload hC 10 dX12_own_153 rfl ?_
              refine pm_bipush (v := 12) hC dX12_own_155 (by decide) ?_
              refine pm_icmp_gt (tgt := 259) hC ⟨by omega, by omega⟩ ⟨by decide, by decide⟩ dX12_own_157 (by decide) (fun c74 => ?_) (fun c74 => ?_)
              · skip
                replace hb69 := hb69.trans (if_pos c74)
                obtain ⟨x75, ei76⟩ : ∃ y : Int, x30 + 1 = y := ⟨_, rfl⟩
                replace hb69 := hb69.trans (pf_let_eq ei76)
                refine pm_iinc (y := x75) (lv' := [(9, (0, x75)), (0, (3, 90)), (1, (0, a1)), (2, (0, a2)), (3, (0, (4 * a1))), (4, (0, y16)), (5, (0, y19)), (6, (0, y22)), (7, (0, x51)), (8, (0, x53)), (10, (0, x55))]) hC 9 dX12_own_259 (by decide) rfl ei76 rfl ?_
                refine pm_goto (tgt := 142) hC dX12_own_262 (by decide) ?_
                have hb44 := hb44.trans (pf_val_inr hb69)
                refine pm_lvsub [1, 2, 3, 4, 5, 6, 7, 8, 9, 0] (lv' := [(0, (3, 90)), (1, (0, a1)), (2, (0, a2)), (3, (0, (4 * a1))), (4, (0, y16)), (5, (0, y19)), (6, (0, y22)), (7, (0, x51)), (8, (0, x53)), (9, (0, x75))]) rfl ?_
                obtain ⟨y77, e78⟩ : ∃ y, V58 114 2 = y := ⟨_, rfl⟩
                have b79 := hV59.get 114 2 (lo := 0) (hi := 600) (by decide) (by decide) rfl
                rw [e78] at b79
                replace hb69 := hb69.trans (pf_let_eq e78)
                obtain ⟨y80, e81⟩ : ∃ y, V58 114 3 = y := ⟨_, rfl⟩
                have b82 := hV59.get 114 3 (lo := 0) (hi := 600) (by decide) (by decide) rfl
                rw [e81] at b82
                replace hb69 := hb69.trans (pf_let_eq e81)
                exact ih48 _ (by omega) x51 x53 x75 V58 ⟨by omega, by omega⟩ ⟨by omega, by omega⟩ ⟨by omega, by omega⟩ (by omega) hV59 hF60 e61 hp62 hp63 hp64 (by (have e : V58 114 2 = y77 := e78); rw [e]; omega) (by (have e : V58 114 3 = y80 := e81); rw [e]; omega) (hT.trans (pf_val_inl hb44)) rfl
              · skip
                replace hb69 := hb69.trans (if_neg (Int.not_lt.mpr c74))
                refine pm_aload_n hC 0 (by decide) dX12_own_160 rfl ?_
                refine pm_getf (v := 100) hC 90 fl_X12_40 rfl rfl (by decide) rfl e61 dX12_own_161 ?_
                refine pm_iload_n hC 3 dX12_own_164 rfl ?_
                refine pm_iload hC 9 dX12_own_165 rfl ?_
                refine pm_iastore (len := 40) hC 100 rfl rfl (by decide) ⟨by omega, by omega⟩ (by decide) dX12_own_167 ?_
                refine pm_aload_n hC 0 (by decide) dX12_own_168 rfl ?_
                refine pm_getf (v := 100) hC 90 fl_X12_40 rfl rfl (by decide) rfl e61 dX12_own_169 ?_
                refine pm_iload_n hC 3 dX12_own_172 rfl ?_
                refine pm_iconst (v := 1) hC dX12_own_173 ?_
                refine pm_iadd hC dX12_own_174 ?_
                refine pm_iload hC 10 dX12_own_175 rfl ?_
                refine pm_iastore (len := 40) hC 100 rfl rfl (by decide) ⟨by omega, by omega⟩ (by decide) dX12_own_177 ?_
                refine pm_aload_n hC 0 (by decide) dX12_own_178 rfl ?_
                refine pm_iconst (v := 4) hC dX12_own_179 ?_
                refine pm_iload_n hC 1 dX12_own_180 rfl ?_
                refine pm_iconst (v := 0) hC dX12_own_181 ?_
                have hV85 := ((hV59.put 100 ((4 * a1) : Int).toNat (x := x30) (lo := (-30)) (hi := 30) ((pm_qe_r (tb := pm_qB) (k := 100) (i := ((4 * a1) : Int).toNat) (m := 4) (r := 0) (l := [(-30, 30, 0), (-30, 30, 0), (0, 16, 0), (0, 3, 0)]) rfl rfl (by omega)).trans rfl) ⟨by omega, by omega⟩).put 100 (((4 * a1) + 1) : Int).toNat (x := x55) (lo := (-30)) (hi := 30) ((pm_qe_r (tb := pm_qB) (k := 100) (i := (((4 * a1) + 1) : Int).toNat) (m := 4) (r := 1) (l := [(-30, 30, 0), (-30, 30, 0), (0, 16, 0), (0, 3, 0)]) rfl rfl (by omega)).trans rfl) ⟨by omega, by omega⟩)
                have hF86 := ((hF60.up 100 ((4 * a1) : Int).toNat x30 (by decide) rfl).up 100 (((4 * a1) + 1) : Int).toNat x55 (by decide) rfl)
                obtain ⟨V83, hv84⟩ : ∃ V, V = (pm_up (pm_up V58 100 ((4 * a1) : Int).toNat x30) 100 (((4 * a1) + 1) : Int).toNat x55) := ⟨_, rfl⟩
                rw [← hv84] at hV85 hF86
                rw [← hv84]
                replace hb69 := hb69.trans (pf_let_eq hv84.symm)
                have e87 : V83 90 24 = 100 := by rw [hv84]; exact e61
                have hp88 : pm_h1 V83 := by rw [hv84]; exact (pm_h1.fr hp62 rfl rfl)
                have hp89 : pm_h2 V83 := by rw [hv84]; exact (pm_h2.fr hp63 rfl rfl rfl)
                have hp90 : pm_h3 V83 := by rw [hv84]; exact (pm_h3.fr hp64 rfl rfl rfl)
                obtain ⟨y91, e92⟩ : ∃ y, V83 114 0 = y := ⟨_, rfl⟩
                have b93 := hV85.get 114 0 (lo := 0) (hi := 600) (by decide) (by decide) rfl
                rw [e92] at b93
                replace hb69 := hb69.trans (pf_let_eq e92)
                obtain ⟨y94, e95⟩ : ∃ y, V83 114 1 = y := ⟨_, rfl⟩
                have b96 := hV85.get 114 1 (lo := 0) (hi := 600) (by decide) (by decide) rfl
                rw [e95] at b96
                replace hb69 := hb69.trans (pf_let_eq e95)
                obtain ⟨y97, e98⟩ : ∃ y, V83 114 2 = y := ⟨_, rfl⟩
                have b99 := hV85.get 114 2 (lo := 0) (hi := 600) (by decide) (by decide) rfl
                rw [e98] at b99
                replace hb69 := hb69.trans (pf_let_eq e98)
                obtain ⟨y100, e101⟩ : ∃ y, V83 114 3 = y := ⟨_, rfl⟩
                have b102 := hV85.get 114 3 (lo := 0) (hi := 600) (by decide) (by decide) rfl
                rw [e101] at b102
                replace hb69 := hb69.trans (pf_let_eq e101)
                refine pm_callV (ci := 12) (as := [(0, 4), (0, a1), (0, 0)]) (st := []) hC 90 (fB_X12_fits_d0 4 a1 ⟨by decide, by decide⟩ ⟨by omega, by omega⟩) lm_X12_424 li_X12_fits (by decide) (by decide) rfl rfl rfl (by decide) rfl rfl (Nat.le_of_ble_eq_true rfl) ⟨Nat.le_refl _, Or.inl rfl⟩ dX12_own_182 ⟨rfl, hV85, hp88, hp89, hp90⟩ (fun r103 V104 hp105 => ?_)
                obtain ⟨rfl, hV106, hF107, hxp108, hxp109, hxp110, hxp111, hE112⟩ := hp105
                replace hb69 := hb69.trans (pf_call_eq hE112)
                change pm_J X 185 [(0, (3, 90)), (1, (0, a1)), (2, (0, a2)), (3, (0, (4 * a1))), (4, (0, y16)), (5, (0, y19)), (6, (0, y22)), (7, (0, x51)), (8, (0, x53)), (9, (0, x30)), (10, (0, x55))] [] 118 V104
                have hF113 := pm_fs.tr hF86 hF107 (by decide) (by decide)
                have e114 : V104 90 24 = 100 := by rw [hF107.2 24 (by decide)]; exact e87
                have hp115 : pm_h1 V104 := (pm_h1.fr hp88 (hF107.2 16 (by decide)) (hF107.1 97 (by decide) (by decide)))
                have hp116 : pm_h2 V104 := (pm_h2.fr hp89 (hF107.2 16 (by decide)) (hF107.2 21 (by decide)) (hF107.1 99 (by decide) (by decide)))
                have hp117 : pm_h3 V104 := (pm_h3.fr hp90 (hF107.2 16 (by decide)) (hF107.2 25 (by decide)) (hF107.1 101 (by decide) (by decide)))
                obtain ⟨y118, e119⟩ : ∃ y, V104 114 0 = y := ⟨_, rfl⟩
                have b120 := hV106.get 114 0 (lo := 0) (hi := 600) (by decide) (by decide) rfl
                rw [e119] at b120
                replace hb69 := hb69.trans (pf_let_eq e119)
                obtain ⟨y121, e122⟩ : ∃ y, V104 114 1 = y := ⟨_, rfl⟩
                have b123 := hV106.get 114 1 (lo := 0) (hi := 600) (by decide) (by decide) rfl
                rw [e122] at b123
                replace hb69 := hb69.trans (pf_let_eq e122)
                obtain ⟨y124, e125⟩ : ∃ y, V104 114 2 = y := ⟨_, rfl⟩
                have b126 := hV106.get 114 2 (lo := 0) (hi := 600) (by decide) (by decide) rfl
                rw [e125] at b126
                replace hb69 := hb69.trans (pf_let_eq e125)
                obtain ⟨y127, e128⟩ : ∃ y, V104 114 3 = y := ⟨_, rfl⟩
                have b129 := hV106.get 114 3 (lo := 0) (hi := 600) (by decide) (by decide) rfl
                rw [e128] at b129
                replace hb69 := hb69.trans (pf_let_eq e128)
                refine pm_iload hC 7 dX12_own_185 rfl ?_
                refine pm_ldcw (v := (-2147483648)) hC 7000 dX12_own_187 (by decide +kernel) ?_
                refine pm_icmp_ne (tgt := 197) hC ⟨by omega, by omega⟩ ⟨by decide, by decide⟩ dX12_own_190 (by decide) (fun c130 => ?_) (fun c130 => ?_)
                · skip
                  replace hb69 := hb69.trans (if_pos c130)
                  refine pm_aload_n hC 0 (by decide) dX12_own_197 rfl ?_
                  have q134 : 0 ≤ V104 114 0 ∧ V104 114 0 ≤ 181 := by (have e : V104 114 0 = y118 := e119); rw [e]; exact ⟨by omega, by omega⟩
                  have q135 : 0 ≤ V104 114 1 ∧ V104 114 1 ≤ 181 := by (have e : V104 114 1 = y121 := e122); rw [e]; exact ⟨by omega, by omega⟩
                  have q136 : 0 ≤ V104 114 2 ∧ V104 114 2 ≤ 181 := by (have e : V104 114 2 = y124 := e125); rw [e]; exact ⟨by omega, by omega⟩
                  have q137 : 0 ≤ V104 114 3 ∧ V104 114 3 ≤ 181 := by (have e : V104 114 3 = y127 := e128); rw [e]; exact ⟨by omega, by omega⟩
                  refine pm_callV (ci := 12) (as := []) (st := []) hC 90 fB_X12_against lm_X12_430 li_X12_against (by decide) (by decide) rfl rfl rfl (by decide) rfl rfl (Nat.le_of_ble_eq_true rfl) ⟨Nat.le_refl _, Or.inl rfl⟩ dX12_own_198 ⟨rfl, hV106, q134, q135, q136, q137⟩ (fun r131 V132 hp133 => ?_)
                  obtain ⟨y138, rfl, b139, hV140, hF141, hxp142, hxp143, hxp144, hxp145, hE146⟩ := hp133
                  replace hb69 := hb69.trans (pf_call_eq hE146)
                  change pm_J X 201 [(0, (3, 90)), (1, (0, a1)), (2, (0, a2)), (3, (0, (4 * a1))), (4, (0, y16)), (5, (0, y19)), (6, (0, y22)), (7, (0, x51)), (8, (0, x53)), (9, (0, x30)), (10, (0, x55))] [(0, y138)] 118 V132
                  have hF147 := pm_fs.tr hF113 hF141 (by decide) (by decide)
                  have e148 : V132 90 24 = 100 := by rw [hF141.2 24 (by decide)]; exact e114
                  have hp149 : pm_h1 V132 := (pm_h1.fr hp115 (hF141.2 16 (by decide)) (hF141.1 97 (by decide) (by decide)))
                  have hp150 : pm_h2 V132 := (pm_h2.fr hp116 (hF141.2 16 (by decide)) (hF141.2 21 (by decide)) (hF141.1 99 (by decide) (by decide)))
                  have hp151 : pm_h3 V132 := (pm_h3.fr hp117 (hF141.2 16 (by decide)) (hF141.2 25 (by decide)) (hF141.1 101 (by decide) (by decide)))
                  obtain ⟨y152, e153⟩ : ∃ y, V132 114 0 = y := ⟨_, rfl⟩
                  have b154 := hV140.get 114 0 (lo := 0) (hi := 600) (by decide) (by decide) rfl
                  rw [e153] at b154
                  replace hb69 := hb69.trans (pf_let_eq e153)
                  obtain ⟨y155, e156⟩ : ∃ y, V132 114 1 = y := ⟨_, rfl⟩
                  have b157 := hV140.get 114 1 (lo := 0) (hi := 600) (by decide) (by decide) rfl
                  rw [e156] at b157
                  replace hb69 := hb69.trans (pf_let_eq e156)
                  obtain ⟨y158, e159⟩ : ∃ y, V132 114 2 = y := ⟨_, rfl⟩
                  have b160 := hV140.get 114 2 (lo := 0) (hi := 600) (by decide) (by decide) rfl
                  rw [e159] at b160
                  replace hb69 := hb69.trans (pf_let_eq e159)
                  obtain ⟨y161, e162⟩ : ∃ y, V132 114 3 = y := ⟨_, rfl⟩
                  have b163 := hV140.get 114 3 (lo := 0) (hi := 600) (by decide) (by decide) rfl
                  rw [e162] at b163
                  replace hb69 := hb69.trans (pf_let_eq e162)
                  refine pm_istore (lv' := [(11, (0, y138)), (0, (3, 90)), (1, (0, a1)), (2, (0, a2)), (3, (0, (4 * a1))), (4, (0, y16)), (5, (0, y19)), (6, (0, y22)), (7, (0, x51)), (8, (0, x53)), (9, (0, x30)), (10, (0, x55))]) hC dX12_own_201 (by decide) rfl ?_
                  refine pm_iload hC 0 dX12_own_203 rfl ?_
                  refine pm_if_lt (tgt := 253) hC ⟨by omega, by omega⟩ dX12_own_205 (by decide) (fun c164 => ?_) (fun c164 => ?_)
                  · skip
                    replace hb69 := hb69.trans (if_pos c164)
                    obtain ⟨x165, ei166⟩ : ∃ y : Int, x55 + 1 = y := ⟨_, rfl⟩
                    replace hb69 := hb69.trans (pf_let_eq ei166)
                    refine pm_iinc (y := x165) (lv' := [(10, (0, x165)), (11, (0, y138)), (0, (3, 90)), (1, (0, a1)), (2, (0, a2)), (3, (0, (4 * a1))), (4, (0, y16)), (5, (0, y19)), (6, (0, y22)), (7, (0, x51)), (8, (0, x53)), (9, (0, x30))]) hC 11 dX12_own_253 (by decide) rfl ei166 rfl ?_
                    refine pm_goto (tgt := 153) hC dX12_own_256 (by decide) ?_
                    refine pm_lvsub [2, 3, 4, 5, 6, 7, 8, 9, 10, 11, 0] (lv' := [(0, (3, 90)), (1, (0, a1)), (2, (0, a2)), (3, (0, (4 * a1))), (4, (0, y16)), (5, (0, y19)), (6, (0, y22)), (7, (0, x51)), (8, (0, x53)), (9, (0, x30)), (10, (0, x165))]) rfl ?_
                    exact ih73 _ (by omega) x51 x53 x165 V132 ⟨by omega, by omega⟩ ⟨by omega, by omega⟩ ⟨by omega, by omega⟩ (by omega) hV140 hF147 e148 hp149 hp150 hp151 (by (have e : V132 114 2 = y158 := e159); rw [e]; omega) (by (have e : V132 114 3 = y161 := e162); rw [e]; omega) (hb44.trans (pf_val_inl hb69)) rfl
                  · skip
                    replace hb69 := hb69.trans (if_neg (Int.not_lt.mpr c164))
                    refine pm_iload hC 0 dX12_own_208 rfl ?_
                    refine pm_if_ne (tgt := 241) hC ⟨by omega, by omega⟩ dX12_own_210 (by decide) (fun c167 => ?_) (fun c167 => ?_)
                    · skip
                      replace hb69 := hb69.trans (if_pos c167)
                      refine pm_aload_n hC 1 (by decide) dX12_own_241 rfl ?_
                      refine pm_callV (ci := 12) (as := []) (st := []) hC 90 fB_X12_keeps lm_X12_427 li_X12_keeps (by decide) (by decide) rfl rfl rfl (by decide) rfl rfl (Nat.le_of_ble_eq_true rfl) ⟨Nat.le_refl _, Or.inl rfl⟩ dX12_own_242 ⟨rfl, hV140⟩ (fun r168 V169 hp170 => ?_)
                      obtain ⟨rfl, hV171, hF172, hxp173, hxp174, hxp175, hxp176, hE177⟩ := hp170
                      replace hb69 := hb69.trans (pf_call_eq hE177)
                      change pm_J X 245 [(11, (0, y138)), (0, (3, 90)), (1, (0, a1)), (2, (0, a2)), (3, (0, (4 * a1))), (4, (0, y16)), (5, (0, y19)), (6, (0, y22)), (7, (0, x51)), (8, (0, x53)), (9, (0, x30)), (10, (0, x55))] [] 118 V169
                      have hF178 := pm_fs.tr hF147 hF172 (by decide) (by decide)
                      have e179 : V169 90 24 = 100 := by rw [hF172.2 24 (by decide)]; exact e148
                      have hp180 : pm_h1 V169 := (pm_h1.fr hp149 (hF172.2 16 (by decide)) (hF172.1 97 (by decide) (by decide)))
                      have hp181 : pm_h2 V169 := (pm_h2.fr hp150 (hF172.2 16 (by decide)) (hF172.2 21 (by decide)) (hF172.1 99 (by decide) (by decide)))
                      have hp182 : pm_h3 V169 := (pm_h3.fr hp151 (hF172.2 16 (by decide)) (hF172.2 25 (by decide)) (hF172.1 101 (by decide) (by decide)))
                      obtain ⟨y183, e184⟩ : ∃ y, V169 114 0 = y := ⟨_, rfl⟩
                      have b185 := hV171.get 114 0 (lo := 0) (hi := 600) (by decide) (by decide) rfl
                      rw [e184] at b185
                      replace hb69 := hb69.trans (pf_let_eq e184)
                      obtain ⟨y186, e187⟩ : ∃ y, V169 114 1 = y := ⟨_, rfl⟩
                      have b188 := hV171.get 114 1 (lo := 0) (hi := 600) (by decide) (by decide) rfl
                      rw [e187] at b188
                      replace hb69 := hb69.trans (pf_let_eq e187)
                      obtain ⟨y189, e190⟩ : ∃ y, V169 114 2 = y := ⟨_, rfl⟩
                      have b191 := hV171.get 114 2 (lo := 0) (hi := 600) (by decide) (by decide) rfl
                      rw [e190] at b191
                      replace hb69 := hb69.trans (pf_let_eq e190)
                      obtain ⟨y192, e193⟩ : ∃ y, V169 114 3 = y := ⟨_, rfl⟩
                      have b194 := hV171.get 114 3 (lo := 0) (hi := 600) (by decide) (by decide) rfl
                      rw [e193] at b194
                      replace hb69 := hb69.trans (pf_let_eq e193)
                      refine pm_iload hC 10 dX12_own_245 rfl ?_
                      refine pm_istore (lv' := [(7, (0, x30)), (11, (0, y138)), (0, (3, 90)), (1, (0, a1)), (2, (0, a2)), (3, (0, (4 * a1))), (4, (0, y16)), (5, (0, y19)), (6, (0, y22)), (8, (0, x53)), (9, (0, x30)), (10, (0, x55))]) hC dX12_own_247 (by decide) rfl ?_
                      refine pm_iload hC 11 dX12_own_249 rfl ?_
                      refine pm_istore (lv' := [(8, (0, x55)), (7, (0, x30)), (11, (0, y138)), (0, (3, 90)), (1, (0, a1)), (2, (0, a2)), (3, (0, (4 * a1))), (4, (0, y16)), (5, (0, y19)), (6, (0, y22)), (9, (0, x30)), (10, (0, x55))]) hC dX12_own_251 (by decide) rfl ?_
                      obtain ⟨x195, ei196⟩ : ∃ y : Int, x55 + 1 = y := ⟨_, rfl⟩
                      replace hb69 := hb69.trans (pf_let_eq ei196)
                      refine pm_iinc (y := x195) (lv' := [(10, (0, x195)), (8, (0, x55)), (7, (0, x30)), (11, (0, y138)), (0, (3, 90)), (1, (0, a1)), (2, (0, a2)), (3, (0, (4 * a1))), (4, (0, y16)), (5, (0, y19)), (6, (0, y22)), (9, (0, x30))]) hC 11 dX12_own_253 (by decide) rfl ei196 rfl ?_
                      refine pm_goto (tgt := 153) hC dX12_own_256 (by decide) ?_
                      refine pm_lvsub [4, 5, 6, 7, 8, 9, 10, 2, 1, 11, 0] (lv' := [(0, (3, 90)), (1, (0, a1)), (2, (0, a2)), (3, (0, (4 * a1))), (4, (0, y16)), (5, (0, y19)), (6, (0, y22)), (7, (0, x30)), (8, (0, x55)), (9, (0, x30)), (10, (0, x195))]) rfl ?_
                      exact ih73 _ (by omega) x30 x55 x195 V169 ⟨by omega, by omega⟩ ⟨by omega, by omega⟩ ⟨by omega, by omega⟩ (by omega) hV171 hF178 e179 hp180 hp181 hp182 (by (have e : V169 114 2 = y189 := e190); rw [e]; omega) (by (have e : V169 114 3 = y192 := e193); rw [e]; omega) (hb44.trans (pf_val_inl hb69)) rfl
                    · skip
                      replace hb69 := hb69.trans (if_neg (fun q => q c167))
                      refine pm_iload hC 10 dX12_own_213 rfl ?_
                      refine pm_callS (as := [(0, x30)]) (st := []) hC (fB_X12_far x30 ⟨by omega, by omega⟩) lm_X12_338 ls_X12_far (by decide) (by decide) rfl rfl (Nat.le_of_ble_eq_true rfl) ⟨Nat.le_refl _, Or.inl rfl⟩ dX12_own_215 ⟨rfl, hV140⟩ (fun r197 V198 hp199 => ?_)
                      obtain ⟨y200, rfl, b201, rfl, hE202⟩ := hp199
                      replace hb69 := hb69.trans (pf_call_eq hE202)
                      change pm_J X 218 [(11, (0, y138)), (0, (3, 90)), (1, (0, a1)), (2, (0, a2)), (3, (0, (4 * a1))), (4, (0, y16)), (5, (0, y19)), (6, (0, y22)), (7, (0, x51)), (8, (0, x53)), (9, (0, x30)), (10, (0, x55))] [(0, y200)] 118 V132
                      refine pm_iload hC 11 dX12_own_218 rfl ?_
                      refine pm_callS (as := [(0, x55)]) (st := [(0, y200)]) hC (fB_X12_far x55 ⟨by omega, by omega⟩) lm_X12_338 ls_X12_far (by decide) (by decide) rfl rfl (Nat.le_of_ble_eq_true rfl) ⟨Nat.le_refl _, Or.inl rfl⟩ dX12_own_220 ⟨rfl, hV140⟩ (fun r203 V204 hp205 => ?_)
                      obtain ⟨y206, rfl, b207, rfl, hE208⟩ := hp205
                      replace hb69 := hb69.trans (pf_call_eq hE208)
                      change pm_J X 223 [(11, (0, y138)), (0, (3, 90)), (1, (0, a1)), (2, (0, a2)), (3, (0, (4 * a1))), (4, (0, y16)), (5, (0, y19)), (6, (0, y22)), (7, (0, x51)), (8, (0, x53)), (9, (0, x30)), (10, (0, x55))] [(0, y206), (0, y200)] 118 V132
                      refine pm_iadd hC dX12_own_223 ?_
                      refine pm_iload hC 8 dX12_own_224 rfl ?_
                      refine pm_callS (as := [(0, x51)]) (st := [(0, (y200 + y206))]) hC (fB_X12_far x51 ⟨by omega, by omega⟩) lm_X12_338 ls_X12_far (by decide) (by decide) rfl rfl (Nat.le_of_ble_eq_true rfl) ⟨Nat.le_refl _, Or.inl rfl⟩ dX12_own_226 ⟨rfl, hV140⟩ (fun r209 V210 hp211 => ?_)
                      obtain ⟨y212, rfl, b213, rfl, hE214⟩ := hp211
                      replace hb69 := hb69.trans (pf_call_eq hE214)
                      change pm_J X 229 [(11, (0, y138)), (0, (3, 90)), (1, (0, a1)), (2, (0, a2)), (3, (0, (4 * a1))), (4, (0, y16)), (5, (0, y19)), (6, (0, y22)), (7, (0, x51)), (8, (0, x53)), (9, (0, x30)), (10, (0, x55))] [(0, y212), (0, (y200 + y206))] 118 V132
                      refine pm_iload hC 9 dX12_own_229 rfl ?_
                      refine pm_callS (as := [(0, x53)]) (st := [(0, y212), (0, (y200 + y206))]) hC (fB_X12_far x53 ⟨by omega, by omega⟩) lm_X12_338 ls_X12_far (by decide) (by decide) rfl rfl (Nat.le_of_ble_eq_true rfl) ⟨Nat.le_refl _, Or.inl rfl⟩ dX12_own_231 ⟨rfl, hV140⟩ (fun r215 V216 hp217 => ?_)
                      obtain ⟨y218, rfl, b219, rfl, hE220⟩ := hp217
                      replace hb69 := hb69.trans (pf_call_eq hE220)
                      change pm_J X 234 [(11, (0, y138)), (0, (3, 90)), (1, (0, a1)), (2, (0, a2)), (3, (0, (4 * a1))), (4, (0, y16)), (5, (0, y19)), (6, (0, y22)), (7, (0, x51)), (8, (0, x53)), (9, (0, x30)), (10, (0, x55))] [(0, y218), (0, y212), (0, (y200 + y206))] 118 V132
                      refine pm_iadd hC dX12_own_234 ?_
                      refine pm_wr hC (fun y221 hw223 b222 => ?_)
                      replace hb69 := hb69.trans (pf_let_eq hw223)
                      have b222 := And.intro b222.1 b222.2
                      refine pm_icmp_lt (tgt := 241) hC ⟨by omega, by omega⟩ ⟨by omega, by omega⟩ dX12_own_235 (by decide) (fun c224 => ?_) (fun c224 => ?_)
                      · skip
                        replace hb69 := hb69.trans (if_pos c224)
                        refine pm_aload_n hC 1 (by decide) dX12_own_241 rfl ?_
                        refine pm_callV (ci := 12) (as := []) (st := []) hC 90 fB_X12_keeps lm_X12_427 li_X12_keeps (by decide) (by decide) rfl rfl rfl (by decide) rfl rfl (Nat.le_of_ble_eq_true rfl) ⟨Nat.le_refl _, Or.inl rfl⟩ dX12_own_242 ⟨rfl, hV140⟩ (fun r225 V226 hp227 => ?_)
                        obtain ⟨rfl, hV228, hF229, hxp230, hxp231, hxp232, hxp233, hE234⟩ := hp227
                        replace hb69 := hb69.trans (pf_call_eq hE234)
                        change pm_J X 245 [(11, (0, y138)), (0, (3, 90)), (1, (0, a1)), (2, (0, a2)), (3, (0, (4 * a1))), (4, (0, y16)), (5, (0, y19)), (6, (0, y22)), (7, (0, x51)), (8, (0, x53)), (9, (0, x30)), (10, (0, x55))] [] 118 V226
                        have hF235 := pm_fs.tr hF147 hF229 (by decide) (by decide)
                        have e236 : V226 90 24 = 100 := by rw [hF229.2 24 (by decide)]; exact e148
                        have hp237 : pm_h1 V226 := (pm_h1.fr hp149 (hF229.2 16 (by decide)) (hF229.1 97 (by decide) (by decide)))
                        have hp238 : pm_h2 V226 := (pm_h2.fr hp150 (hF229.2 16 (by decide)) (hF229.2 21 (by decide)) (hF229.1 99 (by decide) (by decide)))
                        have hp239 : pm_h3 V226 := (pm_h3.fr hp151 (hF229.2 16 (by decide)) (hF229.2 25 (by decide)) (hF229.1 101 (by decide) (by decide)))
                        obtain ⟨y240, e241⟩ : ∃ y, V226 114 0 = y := ⟨_, rfl⟩
                        have b242 := hV228.get 114 0 (lo := 0) (hi := 600) (by decide) (by decide) rfl
                        rw [e241] at b242
                        replace hb69 := hb69.trans (pf_let_eq e241)
                        obtain ⟨y243, e244⟩ : ∃ y, V226 114 1 = y := ⟨_, rfl⟩
                        have b245 := hV228.get 114 1 (lo := 0) (hi := 600) (by decide) (by decide) rfl
                        rw [e244] at b245
                        replace hb69 := hb69.trans (pf_let_eq e244)
                        obtain ⟨y246, e247⟩ : ∃ y, V226 114 2 = y := ⟨_, rfl⟩
                        have b248 := hV228.get 114 2 (lo := 0) (hi := 600) (by decide) (by decide) rfl
                        rw [e247] at b248
                        replace hb69 := hb69.trans (pf_let_eq e247)
                        obtain ⟨y249, e250⟩ : ∃ y, V226 114 3 = y := ⟨_, rfl⟩
                        have b251 := hV228.get 114 3 (lo := 0) (hi := 600) (by decide) (by decide) rfl
                        rw [e250] at b251
                        replace hb69 := hb69.trans (pf_let_eq e250)
                        refine pm_iload hC 10 dX12_own_245 rfl ?_
                        refine pm_istore (lv' := [(7, (0, x30)), (11, (0, y138)), (0, (3, 90)), (1, (0, a1)), (2, (0, a2)), (3, (0, (4 * a1))), (4, (0, y16)), (5, (0, y19)), (6, (0, y22)), (8, (0, x53)), (9, (0, x30)), (10, (0, x55))]) hC dX12_own_247 (by decide) rfl ?_
                        refine pm_iload hC 11 dX12_own_249 rfl ?_
                        refine pm_istore (lv' := [(8, (0, x55)), (7, (0, x30)), (11, (0, y138)), (0, (3, 90)), (1, (0, a1)), (2, (0, a2)), (3, (0, (4 * a1))), (4, (0, y16)), (5, (0, y19)), (6, (0, y22)), (9, (0, x30)), (10, (0, x55))]) hC dX12_own_251 (by decide) rfl ?_
                        obtain ⟨x252, ei253⟩ : ∃ y : Int, x55 + 1 = y := ⟨_, rfl⟩
                        replace hb69 := hb69.trans (pf_let_eq ei253)
                        refine pm_iinc (y := x252) (lv' := [(10, (0, x252)), (8, (0, x55)), (7, (0, x30)), (11, (0, y138)), (0, (3, 90)), (1, (0, a1)), (2, (0, a2)), (3, (0, (4 * a1))), (4, (0, y16)), (5, (0, y19)), (6, (0, y22)), (9, (0, x30))]) hC 11 dX12_own_253 (by decide) rfl ei253 rfl ?_
                        refine pm_goto (tgt := 153) hC dX12_own_256 (by decide) ?_
                        refine pm_lvsub [4, 5, 6, 7, 8, 9, 10, 2, 1, 11, 0] (lv' := [(0, (3, 90)), (1, (0, a1)), (2, (0, a2)), (3, (0, (4 * a1))), (4, (0, y16)), (5, (0, y19)), (6, (0, y22)), (7, (0, x30)), (8, (0, x55)), (9, (0, x30)), (10, (0, x252))]) rfl ?_
                        exact ih73 _ (by omega) x30 x55 x252 V226 ⟨by omega, by omega⟩ ⟨by omega, by omega⟩ ⟨by omega, by omega⟩ (by omega) hV228 hF235 e236 hp237 hp238 hp239 (by (have e : V226 114 2 = y246 := e247); rw [e]; omega) (by (have e : V226 114 3 = y249 := e250); rw [e]; omega) (hb44.trans (pf_val_inl hb69)) rfl
                      · skip
                        replace hb69 := hb69.trans (if_neg (Int.not_lt.mpr c224))
                        refine pm_goto (tgt := 253) hC dX12_own_238 (by decide) ?_
                        obtain ⟨x254, ei255⟩ : ∃ y : Int, x55 + 1 = y := ⟨_, rfl⟩
                        replace hb69 := hb69.trans (pf_let_eq ei255)
                        refine pm_iinc (y := x254) (lv' := [(10, (0, x254)), (11, (0, y138)), (0, (3, 90)), (1, (0, a1)), (2, (0, a2)), (3, (0, (4 * a1))), (4, (0, y16)), (5, (0, y19)), (6, (0, y22)), (7, (0, x51)), (8, (0, x53)), (9, (0, x30))]) hC 11 dX12_own_253 (by decide) rfl ei255 rfl ?_
                        refine pm_goto (tgt := 153) hC dX12_own_256 (by decide) ?_
                        refine pm_lvsub [2, 3, 4, 5, 6, 7, 8, 9, 10, 11, 0] (lv' := [(0, (3, 90)), (1, (0, a1)), (2, (0, a2)), (3, (0, (4 * a1))), (4, (0, y16)), (5, (0, y19)), (6, (0, y22)), (7, (0, x51)), (8, (0, x53)), (9, (0, x30)), (10, (0, x254))]) rfl ?_
                        exact ih73 _ (by omega) x51 x53 x254 V132 ⟨by omega, by omega⟩ ⟨by omega, by omega⟩ ⟨by omega, by omega⟩ (by omega) hV140 hF147 e148 hp149 hp150 hp151 (by (have e : V132 114 2 = y158 := e159); rw [e]; omega) (by (have e : V132 114 3 = y161 := e162); rw [e]; omega) (hb44.trans (pf_val_inl hb69)) rfl
                · skip
                  replace hb69 := hb69.trans (if_neg (fun q => q c130))
                  refine pm_iconst (v := 1) hC dX12_own_193 ?_
                  refine pm_goto (tgt := 201) hC dX12_own_194 (by decide) ?_
                  refine pm_istore (lv' := [(11, (0, 1)), (0, (3, 90)), (1, (0, a1)), (2, (0, a2)), (3, (0, (4 * a1))), (4, (0, y16)), (5, (0, y19)), (6, (0, y22)), (7, (0, x51)), (8, (0, x53)), (9, (0, x30)), (10, (0, x55))]) hC dX12_own_201 (by decide) rfl ?_
                  refine pm_iload hC 0 dX12_own_203 rfl ?_
                  refine pm_if_lt (tgt := 253) hC ⟨by decide, by decide⟩ dX12_own_205 (by decide) (fun c256 => ?_) (fun c256 => ?_)
                  · skip
                    exfalso; omega
                  · skip
                    refine pm_iload hC 0 dX12_own_208 rfl ?_
                    refine pm_if_ne (tgt := 241) hC ⟨by decide, by decide⟩ dX12_own_210 (by decide) (fun c257 => ?_) (fun c257 => ?_)
                    · skip
                      refine pm_aload_n hC 1 (by decide) dX12_own_241 rfl ?_
                      refine pm_callV (ci := 12) (as := []) (st := []) hC 90 fB_X12_keeps lm_X12_427 li_X12_keeps (by decide) (by decide) rfl rfl rfl (by decide) rfl rfl (Nat.le_of_ble_eq_true rfl) ⟨Nat.le_refl _, Or.inl rfl⟩ dX12_own_242 ⟨rfl, hV106⟩ (fun r258 V259 hp260 => ?_)
                      obtain ⟨rfl, hV261, hF262, hxp263, hxp264, hxp265, hxp266, hE267⟩ := hp260
                      replace hb69 := hb69.trans (pf_call_eq hE267)
                      change pm_J X 245 [(11, (0, 1)), (0, (3, 90)), (1, (0, a1)), (2, (0, a2)), (3, (0, (4 * a1))), (4, (0, y16)), (5, (0, y19)), (6, (0, y22)), (7, (0, x51)), (8, (0, x53)), (9, (0, x30)), (10, (0, x55))] [] 118 V259
                      have hF268 := pm_fs.tr hF113 hF262 (by decide) (by decide)
                      have e269 : V259 90 24 = 100 := by rw [hF262.2 24 (by decide)]; exact e114
                      have hp270 : pm_h1 V259 := (pm_h1.fr hp115 (hF262.2 16 (by decide)) (hF262.1 97 (by decide) (by decide)))
                      have hp271 : pm_h2 V259 := (pm_h2.fr hp116 (hF262.2 16 (by decide)) (hF262.2 21 (by decide)) (hF262.1 99 (by decide) (by decide)))
                      have hp272 : pm_h3 V259 := (pm_h3.fr hp117 (hF262.2 16 (by decide)) (hF262.2 25 (by decide)) (hF262.1 101 (by decide) (by decide)))
                      obtain ⟨y273, e274⟩ : ∃ y, V259 114 0 = y := ⟨_, rfl⟩
                      have b275 := hV261.get 114 0 (lo := 0) (hi := 600) (by decide) (by decide) rfl
                      rw [e274] at b275
                      replace hb69 := hb69.trans (pf_let_eq e274)
                      obtain ⟨y276, e277⟩ : ∃ y, V259 114 1 = y := ⟨_, rfl⟩
                      have b278 := hV261.get 114 1 (lo := 0) (hi := 600) (by decide) (by decide) rfl
                      rw [e277] at b278
                      replace hb69 := hb69.trans (pf_let_eq e277)
                      obtain ⟨y279, e280⟩ : ∃ y, V259 114 2 = y := ⟨_, rfl⟩
                      have b281 := hV261.get 114 2 (lo := 0) (hi := 600) (by decide) (by decide) rfl
                      rw [e280] at b281
                      replace hb69 := hb69.trans (pf_let_eq e280)
                      obtain ⟨y282, e283⟩ : ∃ y, V259 114 3 = y := ⟨_, rfl⟩
                      have b284 := hV261.get 114 3 (lo := 0) (hi := 600) (by decide) (by decide) rfl
                      rw [e283] at b284
                      replace hb69 := hb69.trans (pf_let_eq e283)
                      refine pm_iload hC 10 dX12_own_245 rfl ?_
                      refine pm_istore (lv' := [(7, (0, x30)), (11, (0, 1)), (0, (3, 90)), (1, (0, a1)), (2, (0, a2)), (3, (0, (4 * a1))), (4, (0, y16)), (5, (0, y19)), (6, (0, y22)), (8, (0, x53)), (9, (0, x30)), (10, (0, x55))]) hC dX12_own_247 (by decide) rfl ?_
                      refine pm_iload hC 11 dX12_own_249 rfl ?_
                      refine pm_istore (lv' := [(8, (0, x55)), (7, (0, x30)), (11, (0, 1)), (0, (3, 90)), (1, (0, a1)), (2, (0, a2)), (3, (0, (4 * a1))), (4, (0, y16)), (5, (0, y19)), (6, (0, y22)), (9, (0, x30)), (10, (0, x55))]) hC dX12_own_251 (by decide) rfl ?_
                      obtain ⟨x285, ei286⟩ : ∃ y : Int, x55 + 1 = y := ⟨_, rfl⟩
                      replace hb69 := hb69.trans (pf_let_eq ei286)
                      refine pm_iinc (y := x285) (lv' := [(10, (0, x285)), (8, (0, x55)), (7, (0, x30)), (11, (0, 1)), (0, (3, 90)), (1, (0, a1)), (2, (0, a2)), (3, (0, (4 * a1))), (4, (0, y16)), (5, (0, y19)), (6, (0, y22)), (9, (0, x30))]) hC 11 dX12_own_253 (by decide) rfl ei286 rfl ?_
                      refine pm_goto (tgt := 153) hC dX12_own_256 (by decide) ?_
                      refine pm_lvsub [4, 5, 6, 7, 8, 9, 10, 2, 1, 11, 0] (lv' := [(0, (3, 90)), (1, (0, a1)), (2, (0, a2)), (3, (0, (4 * a1))), (4, (0, y16)), (5, (0, y19)), (6, (0, y22)), (7, (0, x30)), (8, (0, x55)), (9, (0, x30)), (10, (0, x285))]) rfl ?_
                      exact ih73 _ (by omega) x30 x55 x285 V259 ⟨by omega, by omega⟩ ⟨by omega, by omega⟩ ⟨by omega, by omega⟩ (by omega) hV261 hF268 e269 hp270 hp271 hp272 (by (have e : V259 114 2 = y279 := e280); rw [e]; omega) (by (have e : V259 114 3 = y282 := e283); rw [e]; omega) (hb44.trans (pf_val_inl hb69)) rfl
                    · skip
                      exfalso; omega
            refine pm_lvsub [1, 2, 3, 4, 5, 6, 7, 8, 9, 10, 0] (lv' := [(0, (3, 90)), (1, (0, a1)), (2, (0, a2)), (3, (0, (4 * a1))), (4, (0, y16)), (5, (0, y19)), (6, (0, y22)), (7, (0, x26)), (8, (0, x28)), (9, (0, x30)), (10, (0, (-12)))]) rfl ?_
            obtain ⟨y287, e288⟩ : ∃ y, V33 114 2 = y := ⟨_, rfl⟩
            have b289 := hV34.get 114 2 (lo := 0) (hi := 600) (by decide) (by decide) rfl
            rw [e288] at b289
            replace hb44 := hb44.trans (pf_let_eq e288)
            obtain ⟨y290, e291⟩ : ∃ y, V33 114 3 = y := ⟨_, rfl⟩
            have b292 := hV34.get 114 3 (lo := 0) (hi := 600) (by decide) (by decide) rfl
            rw [e291] at b292
            replace hb44 := hb44.trans (pf_let_eq e291)
            exact L70 _ x26 x28 (-12) V33 ⟨by omega, by omega⟩ ⟨by omega, by omega⟩ ⟨by decide, by decide⟩ (by omega) hV34 hF35 e36 hp37 hp38 hp39 (by (have e : V33 114 2 = y287 := e288); rw [e]; omega) (by (have e : V33 114 3 = y290 := e291); rw [e]; omega) hb44 rfl
        refine pm_lvsub [7, 8, 9, 6, 5, 4, 3, 2, 1, 0] (lv' := [(0, (3, 90)), (1, (0, a1)), (2, (0, a2)), (3, (0, (4 * a1))), (4, (0, y16)), (5, (0, y19)), (6, (0, y22)), (7, (0, (-2147483648))), (8, (0, 0)), (9, (0, (-12)))]) rfl ?_
        obtain ⟨y293, e294⟩ : ∃ y, V0 114 2 = y := ⟨_, rfl⟩
        have b295 := hV0.get 114 2 (lo := 0) (hi := 600) (by decide) (by decide) rfl
        rw [e294] at b295
        replace hT := hT.trans (pf_let_eq e294)
        obtain ⟨y296, e297⟩ : ∃ y, V0 114 3 = y := ⟨_, rfl⟩
        have b298 := hV0.get 114 3 (lo := 0) (hi := 600) (by decide) (by decide) rfl
        rw [e297] at b298
        replace hT := hT.trans (pf_let_eq e297)
        exact L45 _ (-2147483648) 0 (-12) V0 ⟨by decide, by decide⟩ ⟨by decide, by decide⟩ ⟨by decide, by decide⟩ (by omega) hV0 (pm_fs.rf (cs := [100, 110, 111, 112, 113, 114]) (fs := [42, 43, 44, 45, 46, 47, 48, 49, 51]) (V := V0)) e15 hn_pm_h1 hn_pm_h2 hn_pm_h3 (by (have e : V0 114 2 = y293 := e294); rw [e]; omega) (by (have e : V0 114 3 = y296 := e297); rw [e]; omega) hT rfl
      · skip
        replace hT := hT.trans (if_neg (fun q => q c25))
        refine pm_iconst (v := 0) hC dX12_own_66 ?_
        refine pm_istore (lv' := [(9, (0, 0)), (8, (0, 0)), (7, (0, (-2147483648))), (6, (0, y22)), (5, (0, y19)), (4, (0, y16)), (3, (0, (4 * a1))), (0, (3, 90)), (1, (0, a1)), (2, (0, a2))]) hC dX12_own_67 (by decide) rfl ?_
        obtain ⟨B313, hB314, hT⟩ := pf_loop hT
        have L316 : ∀ (N318 : Nat) (x299 : Int) (x301 : Int) (V304 : pm_M), ((-2147483648) ≤ x299 ∧ x299 ≤ 16) → (0 ≤ x301 ∧ x301 ≤ 17) → (x299 = -2147483648 ∨ 0 ≤ x299) → pm_oq pm_qB V304 → pm_fs [100, 110, 111, 112, 113, 114] [42, 43, 44, 45, 46, 47, 48, 49, 51] V0 V304 → V304 90 24 = 100 → pm_h1 V304 → pm_h2 V304 → pm_h3 V304 → (x299 = -2147483648 ∨ V304 114 2 ≤ 181) → (x299 = -2147483648 ∨ V304 114 3 ≤ 181) → F_X12_own a1 a2 V0 = pf_val ((0 : Int), V0) B313 (x299, x301, V304) → (Int.toNat (17 - x301)) = N318 → pm_J X 69 [(0, (3, 90)), (1, (0, a1)), (2, (0, a2)), (3, (0, (4 * a1))), (4, (0, y16)), (5, (0, y19)), (6, (0, y22)), (7, (0, x299)), (8, (0, 0)), (9, (0, x301))] [] 118 V304 := by
          intro N318
          induction N318 using Nat.strongRecOn with
          | _ N318 ih319 =>
          intro x299 x301 V304 b300 b302 b303 hV305 hF306 e307 hp308 hp309 hp310 hm311 hm312 hT hm317
          have hb315 := congrFun hB314 (x299, x301, V304)
          refine pm_iload hC 9 dX12_own_69 rfl ?_
          refine pm_bipush (v := 16) hC dX12_own_71 (by decide) ?_
          refine pm_icmp_gt (tgt := 125) hC ⟨by omega, by omega⟩ ⟨by decide, by decide⟩ dX12_own_73 (by decide) (fun c320 => ?_) (fun c320 => ?_)
          · skip
            replace hb315 := hb315.trans (if_pos c320)
            refine pm_aload_n hC 0 (by decide) dX12_own_125 rfl ?_
            refine pm_getf (v := 100) hC 90 fl_X12_40 rfl rfl (by decide) rfl e307 dX12_own_126 ?_
            refine pm_iload_n hC 3 dX12_own_129 rfl ?_
            refine pm_iconst (v := 2) hC dX12_own_130 ?_
            refine pm_iadd hC dX12_own_131 ?_
            refine pm_iload hC 6 dX12_own_132 rfl ?_
            refine pm_iastore (len := 40) hC 100 rfl rfl (by decide) ⟨by omega, by omega⟩ (by decide) dX12_own_134 ?_
            refine pm_iload hC 7 dX12_own_135 rfl ?_
            have hT := hT.trans (pf_val_inr hb315)
            exact pm_iret hC hR pm_nar0 ⟨x299, rfl, ⟨by omega, by omega⟩, (hV305.put 100 (((4 * a1) + 2) : Int).toNat (x := y22) (lo := 0) (hi := 16) ((pm_qe_r (tb := pm_qB) (k := 100) (i := (((4 * a1) + 2) : Int).toNat) (m := 4) (r := 2) (l := [(-30, 30, 0), (-30, 30, 0), (0, 16, 0), (0, 3, 0)]) rfl rfl (by omega)).trans rfl) ⟨by omega, by omega⟩), (hF306.up 100 (((4 * a1) + 2) : Int).toNat y22 (by decide) rfl), hT⟩ dX12_own_137
          · skip
            replace hb315 := hb315.trans (if_neg (Int.not_lt.mpr c320))
            refine pm_aload_n hC 0 (by decide) dX12_own_76 rfl ?_
            refine pm_getf (v := 100) hC 90 fl_X12_40 rfl rfl (by decide) rfl e307 dX12_own_77 ?_
            refine pm_iload_n hC 3 dX12_own_80 rfl ?_
            refine pm_iconst (v := 2) hC dX12_own_81 ?_
            refine pm_iadd hC dX12_own_82 ?_
            refine pm_iload hC 9 dX12_own_83 rfl ?_
            refine pm_iastore (len := 40) hC 100 rfl rfl (by decide) ⟨by omega, by omega⟩ (by decide) dX12_own_85 ?_
            refine pm_aload_n hC 0 (by decide) dX12_own_86 rfl ?_
            refine pm_iconst (v := 4) hC dX12_own_87 ?_
            refine pm_iload_n hC 1 dX12_own_88 rfl ?_
            refine pm_iconst (v := 0) hC dX12_own_89 ?_
            have hV323 := (hV305.put 100 (((4 * a1) + 2) : Int).toNat (x := x301) (lo := 0) (hi := 16) ((pm_qe_r (tb := pm_qB) (k := 100) (i := (((4 * a1) + 2) : Int).toNat) (m := 4) (r := 2) (l := [(-30, 30, 0), (-30, 30, 0), (0, 16, 0), (0, 3, 0)]) rfl rfl (by omega)).trans rfl) ⟨by omega, by omega⟩)
            have hF324 := (hF306.up 100 (((4 * a1) + 2) : Int).toNat x301 (by decide) rfl)
            obtain ⟨V321, hv322⟩ : ∃ V, V = (pm_up V304 100 (((4 * a1) + 2) : Int).toNat x301) := ⟨_, rfl⟩
            rw [← hv322] at hV323 hF324
            rw [← hv322]
            replace hb315 := hb315.trans (pf_let_eq hv322.symm)
            have e325 : V321 90 24 = 100 := by rw [hv322]; exact e307
            have hp326 : pm_h1 V321 := by rw [hv322]; exact (pm_h1.fr hp308 rfl rfl)
            have hp327 : pm_h2 V321 := by rw [hv322]; exact (pm_h2.fr hp309 rfl rfl rfl)
            have hp328 : pm_h3 V321 := by rw [hv322]; exact (pm_h3.fr hp310 rfl rfl rfl)
            obtain ⟨y329, e330⟩ : ∃ y, V321 114 0 = y := ⟨_, rfl⟩
            have b331 := hV323.get 114 0 (lo := 0) (hi := 600) (by decide) (by decide) rfl
            rw [e330] at b331
            replace hb315 := hb315.trans (pf_let_eq e330)
            obtain ⟨y332, e333⟩ : ∃ y, V321 114 1 = y := ⟨_, rfl⟩
            have b334 := hV323.get 114 1 (lo := 0) (hi := 600) (by decide) (by decide) rfl
            rw [e333] at b334
            replace hb315 := hb315.trans (pf_let_eq e333)
            obtain ⟨y335, e336⟩ : ∃ y, V321 114 2 = y := ⟨_, rfl⟩
            have b337 := hV323.get 114 2 (lo := 0) (hi := 600) (by decide) (by decide) rfl
            rw [e336] at b337
            replace hb315 := hb315.trans (pf_let_eq e336)
            obtain ⟨y338, e339⟩ : ∃ y, V321 114 3 = y := ⟨_, rfl⟩
            have b340 := hV323.get 114 3 (lo := 0) (hi := 600) (by decide) (by decide) rfl
            rw [e339] at b340
            replace hb315 := hb315.trans (pf_let_eq e339)
            refine pm_callV (ci := 12) (as := [(0, 4), (0, a1), (0, 0)]) (st := []) hC 90 (fB_X12_fits_d0 4 a1 ⟨by decide, by decide⟩ ⟨by omega, by omega⟩) lm_X12_424 li_X12_fits (by decide) (by decide) rfl rfl rfl (by decide) rfl rfl (Nat.le_of_ble_eq_true rfl) ⟨Nat.le_refl _, Or.inl rfl⟩ dX12_own_90 ⟨rfl, hV323, hp326, hp327, hp328⟩ (fun r341 V342 hp343 => ?_)
            obtain ⟨rfl, hV344, hF345, hxp346, hxp347, hxp348, hxp349, hE350⟩ := hp343
            replace hb315 := hb315.trans (pf_call_eq hE350)
            change pm_J X 93 [(0, (3, 90)), (1, (0, a1)), (2, (0, a2)), (3, (0, (4 * a1))), (4, (0, y16)), (5, (0, y19)), (6, (0, y22)), (7, (0, x299)), (8, (0, 0)), (9, (0, x301))] [] 118 V342
            have hF351 := pm_fs.tr hF324 hF345 (by decide) (by decide)
            have e352 : V342 90 24 = 100 := by rw [hF345.2 24 (by decide)]; exact e325
            have hp353 : pm_h1 V342 := (pm_h1.fr hp326 (hF345.2 16 (by decide)) (hF345.1 97 (by decide) (by decide)))
            have hp354 : pm_h2 V342 := (pm_h2.fr hp327 (hF345.2 16 (by decide)) (hF345.2 21 (by decide)) (hF345.1 99 (by decide) (by decide)))
            have hp355 : pm_h3 V342 := (pm_h3.fr hp328 (hF345.2 16 (by decide)) (hF345.2 25 (by decide)) (hF345.1 101 (by decide) (by decide)))
            obtain ⟨y356, e357⟩ : ∃ y, V342 114 0 = y := ⟨_, rfl⟩
            have b358 := hV344.get 114 0 (lo := 0) (hi := 600) (by decide) (by decide) rfl
            rw [e357] at b358
            replace hb315 := hb315.trans (pf_let_eq e357)
            obtain ⟨y359, e360⟩ : ∃ y, V342 114 1 = y := ⟨_, rfl⟩
            have b361 := hV344.get 114 1 (lo := 0) (hi := 600) (by decide) (by decide) rfl
            rw [e360] at b361
            replace hb315 := hb315.trans (pf_let_eq e360)
            obtain ⟨y362, e363⟩ : ∃ y, V342 114 2 = y := ⟨_, rfl⟩
            have b364 := hV344.get 114 2 (lo := 0) (hi := 600) (by decide) (by decide) rfl
            rw [e363] at b364
            replace hb315 := hb315.trans (pf_let_eq e363)
            obtain ⟨y365, e366⟩ : ∃ y, V342 114 3 = y := ⟨_, rfl⟩
            have b367 := hV344.get 114 3 (lo := 0) (hi := 600) (by decide) (by decide) rfl
            rw [e366] at b367
            replace hb315 := hb315.trans (pf_let_eq e366)
            refine pm_iload hC 7 dX12_own_93 rfl ?_
            refine pm_ldcw (v := (-2147483648)) hC 7000 dX12_own_95 (by decide +kernel) ?_
            refine pm_icmp_eq (tgt := 111) hC ⟨by omega, by omega⟩ ⟨by decide, by decide⟩ dX12_own_98 (by decide) (fun c368 => ?_) (fun c368 => ?_)
            · skip
              replace hb315 := hb315.trans (if_pos c368)
              refine pm_aload_n hC 0 (by decide) dX12_own_111 rfl ?_
              refine pm_callV (ci := 12) (as := []) (st := []) hC 90 fB_X12_keeps lm_X12_427 li_X12_keeps (by decide) (by decide) rfl rfl rfl (by decide) rfl rfl (Nat.le_of_ble_eq_true rfl) ⟨Nat.le_refl _, Or.inl rfl⟩ dX12_own_112 ⟨rfl, hV344⟩ (fun r369 V370 hp371 => ?_)
              obtain ⟨rfl, hV372, hF373, hxp374, hxp375, hxp376, hxp377, hE378⟩ := hp371
              replace hb315 := hb315.trans (pf_call_eq hE378)
              change pm_J X 115 [(0, (3, 90)), (1, (0, a1)), (2, (0, a2)), (3, (0, (4 * a1))), (4, (0, y16)), (5, (0, y19)), (6, (0, y22)), (7, (0, x299)), (8, (0, 0)), (9, (0, x301))] [] 118 V370
              have hF379 := pm_fs.tr hF351 hF373 (by decide) (by decide)
              have e380 : V370 90 24 = 100 := by rw [hF373.2 24 (by decide)]; exact e352
              have hp381 : pm_h1 V370 := (pm_h1.fr hp353 (hF373.2 16 (by decide)) (hF373.1 97 (by decide) (by decide)))
              have hp382 : pm_h2 V370 := (pm_h2.fr hp354 (hF373.2 16 (by decide)) (hF373.2 21 (by decide)) (hF373.1 99 (by decide) (by decide)))
              have hp383 : pm_h3 V370 := (pm_h3.fr hp355 (hF373.2 16 (by decide)) (hF373.2 25 (by decide)) (hF373.1 101 (by decide) (by decide)))
              obtain ⟨y384, e385⟩ : ∃ y, V370 114 0 = y := ⟨_, rfl⟩
              have b386 := hV372.get 114 0 (lo := 0) (hi := 600) (by decide) (by decide) rfl
              rw [e385] at b386
              replace hb315 := hb315.trans (pf_let_eq e385)
              obtain ⟨y387, e388⟩ : ∃ y, V370 114 1 = y := ⟨_, rfl⟩
              have b389 := hV372.get 114 1 (lo := 0) (hi := 600) (by decide) (by decide) rfl
              rw [e388] at b389
              replace hb315 := hb315.trans (pf_let_eq e388)
              obtain ⟨y390, e391⟩ : ∃ y, V370 114 2 = y := ⟨_, rfl⟩
              have b392 := hV372.get 114 2 (lo := 0) (hi := 600) (by decide) (by decide) rfl
              rw [e391] at b392
              replace hb315 := hb315.trans (pf_let_eq e391)
              obtain ⟨y393, e394⟩ : ∃ y, V370 114 3 = y := ⟨_, rfl⟩
              have b395 := hV372.get 114 3 (lo := 0) (hi := 600) (by decide) (by decide) rfl
              rw [e394] at b395
              replace hb315 := hb315.trans (pf_let_eq e394)
              refine pm_iload hC 9 dX12_own_115 rfl ?_
              refine pm_istore (lv' := [(7, (0, x301)), (0, (3, 90)), (1, (0, a1)), (2, (0, a2)), (3, (0, (4 * a1))), (4, (0, y16)), (5, (0, y19)), (6, (0, y22)), (8, (0, 0)), (9, (0, x301))]) hC dX12_own_117 (by decide) rfl ?_
              obtain ⟨x396, ei397⟩ : ∃ y : Int, x301 + 1 = y := ⟨_, rfl⟩
              replace hb315 := hb315.trans (pf_let_eq ei397)
              refine pm_iinc (y := x396) (lv' := [(9, (0, x396)), (7, (0, x301)), (0, (3, 90)), (1, (0, a1)), (2, (0, a2)), (3, (0, (4 * a1))), (4, (0, y16)), (5, (0, y19)), (6, (0, y22)), (8, (0, 0))]) hC 9 dX12_own_119 (by decide) rfl ei397 rfl ?_
              refine pm_goto (tgt := 69) hC dX12_own_122 (by decide) ?_
              refine pm_lvsub [2, 3, 4, 5, 6, 7, 8, 1, 9, 0] (lv' := [(0, (3, 90)), (1, (0, a1)), (2, (0, a2)), (3, (0, (4 * a1))), (4, (0, y16)), (5, (0, y19)), (6, (0, y22)), (7, (0, x301)), (8, (0, 0)), (9, (0, x396))]) rfl ?_
              exact ih319 _ (by omega) x301 x396 V370 ⟨by omega, by omega⟩ ⟨by omega, by omega⟩ (by omega) hV372 hF379 e380 hp381 hp382 hp383 (by (have e : V370 114 2 = y390 := e391); rw [e]; omega) (by (have e : V370 114 3 = y393 := e394); rw [e]; omega) (hT.trans (pf_val_inl hb315)) rfl
            · skip
              replace hb315 := hb315.trans (if_neg c368)
              refine pm_aload_n hC 0 (by decide) dX12_own_101 rfl ?_
              have q401 : 0 ≤ V342 114 0 ∧ V342 114 0 ≤ 181 := by (have e : V342 114 0 = y356 := e357); rw [e]; exact ⟨by omega, by omega⟩
              have q402 : 0 ≤ V342 114 1 ∧ V342 114 1 ≤ 181 := by (have e : V342 114 1 = y359 := e360); rw [e]; exact ⟨by omega, by omega⟩
              have q403 : 0 ≤ V342 114 2 ∧ V342 114 2 ≤ 181 := by (have e : V342 114 2 = y362 := e363); rw [e]; exact ⟨by omega, by omega⟩
              have q404 : 0 ≤ V342 114 3 ∧ V342 114 3 ≤ 181 := by (have e : V342 114 3 = y365 := e366); rw [e]; exact ⟨by omega, by omega⟩
              refine pm_callV (ci := 12) (as := []) (st := []) hC 90 fB_X12_against lm_X12_430 li_X12_against (by decide) (by decide) rfl rfl rfl (by decide) rfl rfl (Nat.le_of_ble_eq_true rfl) ⟨Nat.le_refl _, Or.inl rfl⟩ dX12_own_102 ⟨rfl, hV344, q401, q402, q403, q404⟩ (fun r398 V399 hp400 => ?_)
              obtain ⟨y405, rfl, b406, hV407, hF408, hxp409, hxp410, hxp411, hxp412, hE413⟩ := hp400
              replace hb315 := hb315.trans (pf_call_eq hE413)
              change pm_J X 105 [(0, (3, 90)), (1, (0, a1)), (2, (0, a2)), (3, (0, (4 * a1))), (4, (0, y16)), (5, (0, y19)), (6, (0, y22)), (7, (0, x299)), (8, (0, 0)), (9, (0, x301))] [(0, y405)] 118 V399
              have hF414 := pm_fs.tr hF351 hF408 (by decide) (by decide)
              have e415 : V399 90 24 = 100 := by rw [hF408.2 24 (by decide)]; exact e352
              have hp416 : pm_h1 V399 := (pm_h1.fr hp353 (hF408.2 16 (by decide)) (hF408.1 97 (by decide) (by decide)))
              have hp417 : pm_h2 V399 := (pm_h2.fr hp354 (hF408.2 16 (by decide)) (hF408.2 21 (by decide)) (hF408.1 99 (by decide) (by decide)))
              have hp418 : pm_h3 V399 := (pm_h3.fr hp355 (hF408.2 16 (by decide)) (hF408.2 25 (by decide)) (hF408.1 101 (by decide) (by decide)))
              obtain ⟨y419, e420⟩ : ∃ y, V399 114 0 = y := ⟨_, rfl⟩
              have b421 := hV407.get 114 0 (lo := 0) (hi := 600) (by decide) (by decide) rfl
              rw [e420] at b421
              replace hb315 := hb315.trans (pf_let_eq e420)
              obtain ⟨y422, e423⟩ : ∃ y, V399 114 1 = y := ⟨_, rfl⟩
              have b424 := hV407.get 114 1 (lo := 0) (hi := 600) (by decide) (by decide) rfl
              rw [e423] at b424
              replace hb315 := hb315.trans (pf_let_eq e423)
              obtain ⟨y425, e426⟩ : ∃ y, V399 114 2 = y := ⟨_, rfl⟩
              have b427 := hV407.get 114 2 (lo := 0) (hi := 600) (by decide) (by decide) rfl
              rw [e426] at b427
              replace hb315 := hb315.trans (pf_let_eq e426)
              obtain ⟨y428, e429⟩ : ∃ y, V399 114 3 = y := ⟨_, rfl⟩
              have b430 := hV407.get 114 3 (lo := 0) (hi := 600) (by decide) (by decide) rfl
              rw [e429] at b430
              replace hb315 := hb315.trans (pf_let_eq e429)
              refine pm_if_gt (tgt := 111) hC ⟨by omega, by omega⟩ dX12_own_105 (by decide) (fun c431 => ?_) (fun c431 => ?_)
              · skip
                replace hb315 := hb315.trans (if_pos c431)
                refine pm_aload_n hC 0 (by decide) dX12_own_111 rfl ?_
                refine pm_callV (ci := 12) (as := []) (st := []) hC 90 fB_X12_keeps lm_X12_427 li_X12_keeps (by decide) (by decide) rfl rfl rfl (by decide) rfl rfl (Nat.le_of_ble_eq_true rfl) ⟨Nat.le_refl _, Or.inl rfl⟩ dX12_own_112 ⟨rfl, hV407⟩ (fun r432 V433 hp434 => ?_)
                obtain ⟨rfl, hV435, hF436, hxp437, hxp438, hxp439, hxp440, hE441⟩ := hp434
                replace hb315 := hb315.trans (pf_call_eq hE441)
                change pm_J X 115 [(0, (3, 90)), (1, (0, a1)), (2, (0, a2)), (3, (0, (4 * a1))), (4, (0, y16)), (5, (0, y19)), (6, (0, y22)), (7, (0, x299)), (8, (0, 0)), (9, (0, x301))] [] 118 V433
                have hF442 := pm_fs.tr hF414 hF436 (by decide) (by decide)
                have e443 : V433 90 24 = 100 := by rw [hF436.2 24 (by decide)]; exact e415
                have hp444 : pm_h1 V433 := (pm_h1.fr hp416 (hF436.2 16 (by decide)) (hF436.1 97 (by decide) (by decide)))
                have hp445 : pm_h2 V433 := (pm_h2.fr hp417 (hF436.2 16 (by decide)) (hF436.2 21 (by decide)) (hF436.1 99 (by decide) (by decide)))
                have hp446 : pm_h3 V433 := (pm_h3.fr hp418 (hF436.2 16 (by decide)) (hF436.2 25 (by decide)) (hF436.1 101 (by decide) (by decide)))
                obtain ⟨y447, e448⟩ : ∃ y, V433 114 0 = y := ⟨_, rfl⟩
                have b449 := hV435.get 114 0 (lo := 0) (hi := 600) (by decide) (by decide) rfl
                rw [e448] at b449
                replace hb315 := hb315.trans (pf_let_eq e448)
                obtain ⟨y450, e451⟩ : ∃ y, V433 114 1 = y := ⟨_, rfl⟩
                have b452 := hV435.get 114 1 (lo := 0) (hi := 600) (by decide) (by decide) rfl
                rw [e451] at b452
                replace hb315 := hb315.trans (pf_let_eq e451)
                obtain ⟨y453, e454⟩ : ∃ y, V433 114 2 = y := ⟨_, rfl⟩
                have b455 := hV435.get 114 2 (lo := 0) (hi := 600) (by decide) (by decide) rfl
                rw [e454] at b455
                replace hb315 := hb315.trans (pf_let_eq e454)
                obtain ⟨y456, e457⟩ : ∃ y, V433 114 3 = y := ⟨_, rfl⟩
                have b458 := hV435.get 114 3 (lo := 0) (hi := 600) (by decide) (by decide) rfl
                rw [e457] at b458
                replace hb315 := hb315.trans (pf_let_eq e457)
                refine pm_iload hC 9 dX12_own_115 rfl ?_
                refine pm_istore (lv' := [(7, (0, x301)), (0, (3, 90)), (1, (0, a1)), (2, (0, a2)), (3, (0, (4 * a1))), (4, (0, y16)), (5, (0, y19)), (6, (0, y22)), (8, (0, 0)), (9, (0, x301))]) hC dX12_own_117 (by decide) rfl ?_
                obtain ⟨x459, ei460⟩ : ∃ y : Int, x301 + 1 = y := ⟨_, rfl⟩
                replace hb315 := hb315.trans (pf_let_eq ei460)
                refine pm_iinc (y := x459) (lv' := [(9, (0, x459)), (7, (0, x301)), (0, (3, 90)), (1, (0, a1)), (2, (0, a2)), (3, (0, (4 * a1))), (4, (0, y16)), (5, (0, y19)), (6, (0, y22)), (8, (0, 0))]) hC 9 dX12_own_119 (by decide) rfl ei460 rfl ?_
                refine pm_goto (tgt := 69) hC dX12_own_122 (by decide) ?_
                refine pm_lvsub [2, 3, 4, 5, 6, 7, 8, 1, 9, 0] (lv' := [(0, (3, 90)), (1, (0, a1)), (2, (0, a2)), (3, (0, (4 * a1))), (4, (0, y16)), (5, (0, y19)), (6, (0, y22)), (7, (0, x301)), (8, (0, 0)), (9, (0, x459))]) rfl ?_
                exact ih319 _ (by omega) x301 x459 V433 ⟨by omega, by omega⟩ ⟨by omega, by omega⟩ (by omega) hV435 hF442 e443 hp444 hp445 hp446 (by (have e : V433 114 2 = y453 := e454); rw [e]; omega) (by (have e : V433 114 3 = y456 := e457); rw [e]; omega) (hT.trans (pf_val_inl hb315)) rfl
              · skip
                replace hb315 := hb315.trans (if_neg (Int.not_lt.mpr c431))
                refine pm_goto (tgt := 119) hC dX12_own_108 (by decide) ?_
                obtain ⟨x461, ei462⟩ : ∃ y : Int, x301 + 1 = y := ⟨_, rfl⟩
                replace hb315 := hb315.trans (pf_let_eq ei462)
                refine pm_iinc (y := x461) (lv' := [(9, (0, x461)), (0, (3, 90)), (1, (0, a1)), (2, (0, a2)), (3, (0, (4 * a1))), (4, (0, y16)), (5, (0, y19)), (6, (0, y22)), (7, (0, x299)), (8, (0, 0))]) hC 9 dX12_own_119 (by decide) rfl ei462 rfl ?_
                refine pm_goto (tgt := 69) hC dX12_own_122 (by decide) ?_
                refine pm_lvsub [1, 2, 3, 4, 5, 6, 7, 8, 9, 0] (lv' := [(0, (3, 90)), (1, (0, a1)), (2, (0, a2)), (3, (0, (4 * a1))), (4, (0, y16)), (5, (0, y19)), (6, (0, y22)), (7, (0, x299)), (8, (0, 0)), (9, (0, x461))]) rfl ?_
                exact ih319 _ (by omega) x299 x461 V399 ⟨by omega, by omega⟩ ⟨by omega, by omega⟩ (by omega) hV407 hF414 e415 hp416 hp417 hp418 (by (have e : V399 114 2 = y425 := e426); rw [e]; omega) (by (have e : V399 114 3 = y428 := e429); rw [e]; omega) (hT.trans (pf_val_inl hb315)) rfl
        refine pm_lvsub [7, 8, 9, 6, 5, 4, 3, 2, 1, 0] (lv' := [(0, (3, 90)), (1, (0, a1)), (2, (0, a2)), (3, (0, (4 * a1))), (4, (0, y16)), (5, (0, y19)), (6, (0, y22)), (7, (0, (-2147483648))), (8, (0, 0)), (9, (0, 0))]) rfl ?_
        obtain ⟨y463, e464⟩ : ∃ y, V0 114 2 = y := ⟨_, rfl⟩
        have b465 := hV0.get 114 2 (lo := 0) (hi := 600) (by decide) (by decide) rfl
        rw [e464] at b465
        replace hT := hT.trans (pf_let_eq e464)
        obtain ⟨y466, e467⟩ : ∃ y, V0 114 3 = y := ⟨_, rfl⟩
        have b468 := hV0.get 114 3 (lo := 0) (hi := 600) (by decide) (by decide) rfl
        rw [e467] at b468
        replace hT := hT.trans (pf_let_eq e467)
        exact L316 _ (-2147483648) 0 V0 ⟨by decide, by decide⟩ ⟨by decide, by decide⟩ (by omega) hV0 (pm_fs.rf (cs := [100, 110, 111, 112, 113, 114]) (fs := [42, 43, 44, 45, 46, 47, 48, 49, 51]) (V := V0)) e15 hn_pm_h1 hn_pm_h2 hn_pm_h3 (by (have e : V0 114 2 = y463 := e464); rw [e]; omega) (by (have e : V0 114 3 = y466 := e467); rw [e]; omega) hT rfl
    · skip
      replace hT := hT.trans (if_neg (fun q => q c14))
      refine pm_ldcw (v := (-2147483648)) hC 7000 dX12_own_17 (by decide +kernel) ?_
      exact pm_iret hC hR pm_nar0 ⟨(-2147483648), rfl, ⟨by omega, by omega⟩, hV0, (pm_fs.rf (cs := [100, 110, 111, 112, 113, 114]) (fs := [42, 43, 44, 45, 46, 47, 48, 49, 51]) (V := V0)), hT⟩ dX12_own_20
