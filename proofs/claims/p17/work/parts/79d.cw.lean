noncomputable def F_X10_mostLikely (V0 : pm_M) : Int × pm_M := pf_val ((0 : Int), V0) (fun (q : Int × Int) => match q with | (x1, x3) => ((if V0 73 0 = 45 then (pf_let (V0 45 0) fun y13 => (if y13 ≤ x3 then ((.inr (x1, V0))) else ((if V0 73 13 = 76 then (pf_let (V0 76 (x3 : Int).toNat) fun y18 => pf_let (V0 76 (x1 : Int).toNat) fun y21 => pf_let (pm_cmp y18 y21) fun y24 => (if y24 ≤ 0 then (pf_let (x3 + 1) fun x27 => (.inl (x1, x27))) else (pf_let (x3 + 1) fun x29 => (.inl (x3, x29))))) else (pf_let (V0 77 (x3 : Int).toNat) fun y31 => pf_let (V0 77 (x1 : Int).toNat) fun y34 => pf_let (pm_cmp y31 y34) fun y37 => (if y37 ≤ 0 then (pf_let (x3 + 1) fun x40 => (.inl (x1, x40))) else (pf_let (x3 + 1) fun x42 => (.inl (x3, x42))))))))) else (pf_let (V0 51 0) fun y44 => (if y44 ≤ x3 then ((.inr (x1, V0))) else ((if V0 73 13 = 76 then (pf_let (V0 76 (x3 : Int).toNat) fun y49 => pf_let (V0 76 (x1 : Int).toNat) fun y52 => pf_let (pm_cmp y49 y52) fun y55 => (if y55 ≤ 0 then (pf_let (x3 + 1) fun x58 => (.inl (x1, x58))) else (pf_let (x3 + 1) fun x60 => (.inl (x3, x60))))) else (pf_let (V0 77 (x3 : Int).toNat) fun y62 => pf_let (V0 77 (x1 : Int).toNat) fun y65 => pf_let (pm_cmp y62 y65) fun y68 => (if y68 ≤ 0 then (pf_let (x3 + 1) fun x71 => (.inl (x1, x71))) else (pf_let (x3 + 1) fun x73 => (.inl (x3, x73)))))))))))) (0, 1)
theorem F_X10_mostLikely_eq (V0 : pm_M) : F_X10_mostLikely V0 = pf_val ((0 : Int), V0) (fun (q : Int × Int) => match q with | (x1, x3) => ((if V0 73 0 = 45 then (pf_let (V0 45 0) fun y13 => (if y13 ≤ x3 then ((.inr (x1, V0))) else ((if V0 73 13 = 76 then (pf_let (V0 76 (x3 : Int).toNat) fun y18 => pf_let (V0 76 (x1 : Int).toNat) fun y21 => pf_let (pm_cmp y18 y21) fun y24 => (if y24 ≤ 0 then (pf_let (x3 + 1) fun x27 => (.inl (x1, x27))) else (pf_let (x3 + 1) fun x29 => (.inl (x3, x29))))) else (pf_let (V0 77 (x3 : Int).toNat) fun y31 => pf_let (V0 77 (x1 : Int).toNat) fun y34 => pf_let (pm_cmp y31 y34) fun y37 => (if y37 ≤ 0 then (pf_let (x3 + 1) fun x40 => (.inl (x1, x40))) else (pf_let (x3 + 1) fun x42 => (.inl (x3, x42))))))))) else (pf_let (V0 51 0) fun y44 => (if y44 ≤ x3 then ((.inr (x1, V0))) else ((if V0 73 13 = 76 then (pf_let (V0 76 (x3 : Int).toNat) fun y49 => pf_let (V0 76 (x1 : Int).toNat) fun y52 => pf_let (pm_cmp y49 y52) fun y55 => (if y55 ≤ 0 then (pf_let (x3 + 1) fun x58 => (.inl (x1, x58))) else (pf_let (x3 + 1) fun x60 => (.inl (x3, x60))))) else (pf_let (V0 77 (x3 : Int).toNat) fun y62 => pf_let (V0 77 (x1 : Int).toNat) fun y65 => pf_let (pm_cmp y62 y65) fun y68 => (if y68 ≤ 0 then (pf_let (x3 + 1) fun x71 => (.inl (x1, x71))) else (pf_let (x3 + 1) fun x73 => (.inl (x3, x73)))))))))))) (0, 1) := rfl
noncomputable def F_X10_greatestWeight (V0 : pm_M) : Int × pm_M := (if V0 73 13 = 76 then (pf_call (F_X10_mostLikely  V0) fun y5 _ => pf_let (V0 76 (y5 : Int).toNat) fun y8 => (y8, V0)) else (pf_call (F_X10_mostLikely  V0) fun y14 _ => pf_let (V0 77 (y14 : Int).toNat) fun y17 => (y17, V0)))
theorem F_X10_greatestWeight_eq (V0 : pm_M) : F_X10_greatestWeight V0 = (if V0 73 13 = 76 then (pf_call (F_X10_mostLikely  V0) fun y5 _ => pf_let (V0 76 (y5 : Int).toNat) fun y8 => (y8, V0)) else (pf_call (F_X10_mostLikely  V0) fun y14 _ => pf_let (V0 77 (y14 : Int).toNat) fun y17 => (y17, V0))) := rfl
noncomputable def F_X10_weighSurer (V0 : pm_M) : Int × pm_M := pf_call (F_X10_weighFace  V0) fun _ V2 => pf_call (F_X10_greatestWeight  V2) fun y11 _ => pf_let (V2 73 14) fun y14 => pf_call (F_X10_weighVoice  V2) fun _ V18 => pf_let (V18 73 14) fun y24 => pf_let (pm_w64 (y11 * y24)) fun y27 => pf_call (F_X10_greatestWeight  V18) fun y33 _ => pf_let (pm_w64 (y33 * y14)) fun y36 => pf_let (pm_cmp y27 y36) fun y39 => (if y39 ≤ 0 then ((0, V18)) else (pf_call (F_X10_weighFace  V18) fun _ V43 => (0, V43)))
theorem F_X10_weighSurer_eq (V0 : pm_M) : F_X10_weighSurer V0 = pf_call (F_X10_weighFace  V0) fun _ V2 => pf_call (F_X10_greatestWeight  V2) fun y11 _ => pf_let (V2 73 14) fun y14 => pf_call (F_X10_weighVoice  V2) fun _ V18 => pf_let (V18 73 14) fun y24 => pf_let (pm_w64 (y11 * y24)) fun y27 => pf_call (F_X10_greatestWeight  V18) fun y33 _ => pf_let (pm_w64 (y33 * y14)) fun y36 => pf_let (pm_cmp y27 y36) fun y39 => (if y39 ≤ 0 then ((0, V18)) else (pf_call (F_X10_weighFace  V18) fun _ V43 => (0, V43))) := rfl
noncomputable def F_X10_weighOne (V0 : pm_M) : Int × pm_M := pf_let (V0 73 12) fun y1 => pf_let (pm_cmp y1 0) fun y4 => (if ¬ (y4 = 0) then (pf_val ((0 : Int), V0) (fun (q : Int × pm_M) => match q with | (x7, V9) => ((if V9 73 0 = 45 then (pf_let (V9 45 0) fun y21 => (if y21 ≤ x7 then ((.inr (0, (pm_up V9 73 14 y1)))) else ((if V9 73 13 = 76 then (pf_let (V9 74 (x7 : Int).toNat) fun y27 => pf_let (V9 75 (x7 : Int).toNat) fun y31 => pf_let (pm_w64 (y27 * y31)) fun y34 => pf_let (x7 + 1) fun x37 => (.inl (x37, (pm_up V9 76 (x7 : Int).toNat y34)))) else (pf_let (V9 74 (x7 : Int).toNat) fun y40 => pf_let (V9 75 (x7 : Int).toNat) fun y44 => pf_let (pm_w64 (y40 * y44)) fun y47 => pf_let (x7 + 1) fun x50 => (.inl (x50, (pm_up V9 77 (x7 : Int).toNat y47)))))))) else (pf_let (V9 51 0) fun y52 => (if y52 ≤ x7 then ((.inr (0, (pm_up V9 73 14 y1)))) else ((if V9 73 13 = 76 then (pf_let (V9 74 (x7 : Int).toNat) fun y58 => pf_let (V9 75 (x7 : Int).toNat) fun y62 => pf_let (pm_w64 (y58 * y62)) fun y65 => pf_let (x7 + 1) fun x68 => (.inl (x68, (pm_up V9 76 (x7 : Int).toNat y65)))) else (pf_let (V9 74 (x7 : Int).toNat) fun y71 => pf_let (V9 75 (x7 : Int).toNat) fun y75 => pf_let (pm_w64 (y71 * y75)) fun y78 => pf_let (x7 + 1) fun x81 => (.inl (x81, (pm_up V9 77 (x7 : Int).toNat y78))))))))))) (0, V0)) else (pf_call (F_X10_weighVoice  V0) fun _ V84 => (0, V84)))
theorem F_X10_weighOne_eq (V0 : pm_M) : F_X10_weighOne V0 = pf_let (V0 73 12) fun y1 => pf_let (pm_cmp y1 0) fun y4 => (if ¬ (y4 = 0) then (pf_val ((0 : Int), V0) (fun (q : Int × pm_M) => match q with | (x7, V9) => ((if V9 73 0 = 45 then (pf_let (V9 45 0) fun y21 => (if y21 ≤ x7 then ((.inr (0, (pm_up V9 73 14 y1)))) else ((if V9 73 13 = 76 then (pf_let (V9 74 (x7 : Int).toNat) fun y27 => pf_let (V9 75 (x7 : Int).toNat) fun y31 => pf_let (pm_w64 (y27 * y31)) fun y34 => pf_let (x7 + 1) fun x37 => (.inl (x37, (pm_up V9 76 (x7 : Int).toNat y34)))) else (pf_let (V9 74 (x7 : Int).toNat) fun y40 => pf_let (V9 75 (x7 : Int).toNat) fun y44 => pf_let (pm_w64 (y40 * y44)) fun y47 => pf_let (x7 + 1) fun x50 => (.inl (x50, (pm_up V9 77 (x7 : Int).toNat y47)))))))) else (pf_let (V9 51 0) fun y52 => (if y52 ≤ x7 then ((.inr (0, (pm_up V9 73 14 y1)))) else ((if V9 73 13 = 76 then (pf_let (V9 74 (x7 : Int).toNat) fun y58 => pf_let (V9 75 (x7 : Int).toNat) fun y62 => pf_let (pm_w64 (y58 * y62)) fun y65 => pf_let (x7 + 1) fun x68 => (.inl (x68, (pm_up V9 76 (x7 : Int).toNat y65)))) else (pf_let (V9 74 (x7 : Int).toNat) fun y71 => pf_let (V9 75 (x7 : Int).toNat) fun y75 => pf_let (pm_w64 (y71 * y75)) fun y78 => pf_let (x7 + 1) fun x81 => (.inl (x81, (pm_up V9 77 (x7 : Int).toNat y78))))))))))) (0, V0)) else (pf_call (F_X10_weighVoice  V0) fun _ V84 => (0, V84))) := rfl
noncomputable def F_X10_weighOdds (V0 : pm_M) : Int × pm_M := pf_let (V0 73 7) fun y1 => (if V0 73 0 = 45 then (pf_let (V0 45 0) fun y5 => pf_let (pm_w64 (y1 * y5)) fun y8 => pf_let (pm_w64 (16 - y1)) fun y11 => pf_let (V0 73 11) fun y14 => pf_let (pm_w64 (y11 * y14)) fun y17 => pf_let (V0 73 12) fun y20 => pf_let (pm_w64 (y8 * y20)) fun y23 => pf_let (V0 73 10) fun y26 => pf_let (pm_w64 (y17 * y26)) fun y29 => pf_let (pm_w64 (y23 + y29)) fun y32 => pf_let (pm_cmp y32 0) fun y35 => (if ¬ (y35 = 0) then (pf_let ((pm_up V0 73 14 y32)) fun V38 => pf_val ((0 : Int), V0) (fun (q : Int × pm_M) => match q with | (x49, V51) => ((if y5 ≤ x49 then ((.inr (0, V51))) else ((if V51 73 13 = 76 then (pf_let (V51 74 (x49 : Int).toNat) fun y71 => pf_let (V51 75 (x49 : Int).toNat) fun y75 => pf_let (pm_w64 (y8 * y75)) fun y78 => pf_let (pm_w64 (y78 + y17)) fun y81 => pf_let (pm_w64 (y71 * y81)) fun y84 => pf_let (x49 + 1) fun x87 => (.inl (x87, (pm_up V51 76 (x49 : Int).toNat y84)))) else (pf_let (V51 74 (x49 : Int).toNat) fun y90 => pf_let (V51 75 (x49 : Int).toNat) fun y94 => pf_let (pm_w64 (y8 * y94)) fun y97 => pf_let (pm_w64 (y97 + y17)) fun y100 => pf_let (pm_w64 (y90 * y100)) fun y103 => pf_let (x49 + 1) fun x106 => (.inl (x106, (pm_up V51 77 (x49 : Int).toNat y103))))))))) (0, V38)) else (pf_call (F_X10_weighVoice  (pm_up V0 73 14 y32)) fun _ V109 => (0, V109)))) else (pf_let (V0 51 0) fun y121 => pf_let (pm_w64 (y1 * y121)) fun y124 => pf_let (pm_w64 (16 - y1)) fun y127 => pf_let (V0 73 11) fun y130 => pf_let (pm_w64 (y127 * y130)) fun y133 => pf_let (V0 73 12) fun y136 => pf_let (pm_w64 (y124 * y136)) fun y139 => pf_let (V0 73 10) fun y142 => pf_let (pm_w64 (y133 * y142)) fun y145 => pf_let (pm_w64 (y139 + y145)) fun y148 => pf_let (pm_cmp y148 0) fun y151 => (if ¬ (y151 = 0) then (pf_let ((pm_up V0 73 14 y148)) fun V154 => pf_val ((0 : Int), V0) (fun (q : Int × pm_M) => match q with | (x165, V167) => ((if y121 ≤ x165 then ((.inr (0, V167))) else ((if V167 73 13 = 76 then (pf_let (V167 74 (x165 : Int).toNat) fun y187 => pf_let (V167 75 (x165 : Int).toNat) fun y191 => pf_let (pm_w64 (y124 * y191)) fun y194 => pf_let (pm_w64 (y194 + y133)) fun y197 => pf_let (pm_w64 (y187 * y197)) fun y200 => pf_let (x165 + 1) fun x203 => (.inl (x203, (pm_up V167 76 (x165 : Int).toNat y200)))) else (pf_let (V167 74 (x165 : Int).toNat) fun y206 => pf_let (V167 75 (x165 : Int).toNat) fun y210 => pf_let (pm_w64 (y124 * y210)) fun y213 => pf_let (pm_w64 (y213 + y133)) fun y216 => pf_let (pm_w64 (y206 * y216)) fun y219 => pf_let (x165 + 1) fun x222 => (.inl (x222, (pm_up V167 77 (x165 : Int).toNat y219))))))))) (0, V154)) else (pf_call (F_X10_weighVoice  (pm_up V0 73 14 y148)) fun _ V225 => (0, V225)))))
theorem F_X10_weighOdds_eq (V0 : pm_M) : F_X10_weighOdds V0 = pf_let (V0 73 7) fun y1 => (if V0 73 0 = 45 then (pf_let (V0 45 0) fun y5 => pf_let (pm_w64 (y1 * y5)) fun y8 => pf_let (pm_w64 (16 - y1)) fun y11 => pf_let (V0 73 11) fun y14 => pf_let (pm_w64 (y11 * y14)) fun y17 => pf_let (V0 73 12) fun y20 => pf_let (pm_w64 (y8 * y20)) fun y23 => pf_let (V0 73 10) fun y26 => pf_let (pm_w64 (y17 * y26)) fun y29 => pf_let (pm_w64 (y23 + y29)) fun y32 => pf_let (pm_cmp y32 0) fun y35 => (if ¬ (y35 = 0) then (pf_let ((pm_up V0 73 14 y32)) fun V38 => pf_val ((0 : Int), V0) (fun (q : Int × pm_M) => match q with | (x49, V51) => ((if y5 ≤ x49 then ((.inr (0, V51))) else ((if V51 73 13 = 76 then (pf_let (V51 74 (x49 : Int).toNat) fun y71 => pf_let (V51 75 (x49 : Int).toNat) fun y75 => pf_let (pm_w64 (y8 * y75)) fun y78 => pf_let (pm_w64 (y78 + y17)) fun y81 => pf_let (pm_w64 (y71 * y81)) fun y84 => pf_let (x49 + 1) fun x87 => (.inl (x87, (pm_up V51 76 (x49 : Int).toNat y84)))) else (pf_let (V51 74 (x49 : Int).toNat) fun y90 => pf_let (V51 75 (x49 : Int).toNat) fun y94 => pf_let (pm_w64 (y8 * y94)) fun y97 => pf_let (pm_w64 (y97 + y17)) fun y100 => pf_let (pm_w64 (y90 * y100)) fun y103 => pf_let (x49 + 1) fun x106 => (.inl (x106, (pm_up V51 77 (x49 : Int).toNat y103))))))))) (0, V38)) else (pf_call (F_X10_weighVoice  (pm_up V0 73 14 y32)) fun _ V109 => (0, V109)))) else (pf_let (V0 51 0) fun y121 => pf_let (pm_w64 (y1 * y121)) fun y124 => pf_let (pm_w64 (16 - y1)) fun y127 => pf_let (V0 73 11) fun y130 => pf_let (pm_w64 (y127 * y130)) fun y133 => pf_let (V0 73 12) fun y136 => pf_let (pm_w64 (y124 * y136)) fun y139 => pf_let (V0 73 10) fun y142 => pf_let (pm_w64 (y133 * y142)) fun y145 => pf_let (pm_w64 (y139 + y145)) fun y148 => pf_let (pm_cmp y148 0) fun y151 => (if ¬ (y151 = 0) then (pf_let ((pm_up V0 73 14 y148)) fun V154 => pf_val ((0 : Int), V0) (fun (q : Int × pm_M) => match q with | (x165, V167) => ((if y121 ≤ x165 then ((.inr (0, V167))) else ((if V167 73 13 = 76 then (pf_let (V167 74 (x165 : Int).toNat) fun y187 => pf_let (V167 75 (x165 : Int).toNat) fun y191 => pf_let (pm_w64 (y124 * y191)) fun y194 => pf_let (pm_w64 (y194 + y133)) fun y197 => pf_let (pm_w64 (y187 * y197)) fun y200 => pf_let (x165 + 1) fun x203 => (.inl (x203, (pm_up V167 76 (x165 : Int).toNat y200)))) else (pf_let (V167 74 (x165 : Int).toNat) fun y206 => pf_let (V167 75 (x165 : Int).toNat) fun y210 => pf_let (pm_w64 (y124 * y210)) fun y213 => pf_let (pm_w64 (y213 + y133)) fun y216 => pf_let (pm_w64 (y206 * y216)) fun y219 => pf_let (x165 + 1) fun x222 => (.inl (x222, (pm_up V167 77 (x165 : Int).toNat y219))))))))) (0, V154)) else (pf_call (F_X10_weighVoice  (pm_up V0 73 14 y148)) fun _ V225 => (0, V225))))) := rfl
noncomputable def F_X10_weighSingle (a1 : Int) (V0 : pm_M) : Int × pm_M := pf_val ((0 : Int), V0) (fun (q : Int × pm_M) => match q with | (x1, V3) => ((if V3 73 0 = 45 then (pf_let (V3 45 0) fun y14 => (if y14 ≤ x1 then ((.inr (0, (pm_up V3 73 14 1)))) else ((if V3 73 13 = 76 then ((if ¬ (x1 = a1) then (pf_let (x1 + 1) fun x20 => (.inl (x20, (pm_up V3 76 (x1 : Int).toNat 0)))) else (pf_let (x1 + 1) fun x22 => (.inl (x22, (pm_up V3 76 (x1 : Int).toNat 1)))))) else ((if ¬ (x1 = a1) then (pf_let (x1 + 1) fun x25 => (.inl (x25, (pm_up V3 77 (x1 : Int).toNat 0)))) else (pf_let (x1 + 1) fun x27 => (.inl (x27, (pm_up V3 77 (x1 : Int).toNat 1)))))))))) else (pf_let (V3 51 0) fun y29 => (if y29 ≤ x1 then ((.inr (0, (pm_up V3 73 14 1)))) else ((if V3 73 13 = 76 then ((if ¬ (x1 = a1) then (pf_let (x1 + 1) fun x35 => (.inl (x35, (pm_up V3 76 (x1 : Int).toNat 0)))) else (pf_let (x1 + 1) fun x37 => (.inl (x37, (pm_up V3 76 (x1 : Int).toNat 1)))))) else ((if ¬ (x1 = a1) then (pf_let (x1 + 1) fun x40 => (.inl (x40, (pm_up V3 77 (x1 : Int).toNat 0)))) else (pf_let (x1 + 1) fun x42 => (.inl (x42, (pm_up V3 77 (x1 : Int).toNat 1))))))))))))) (0, V0)
theorem F_X10_weighSingle_eq (a1 : Int) (V0 : pm_M) : F_X10_weighSingle a1 V0 = pf_val ((0 : Int), V0) (fun (q : Int × pm_M) => match q with | (x1, V3) => ((if V3 73 0 = 45 then (pf_let (V3 45 0) fun y14 => (if y14 ≤ x1 then ((.inr (0, (pm_up V3 73 14 1)))) else ((if V3 73 13 = 76 then ((if ¬ (x1 = a1) then (pf_let (x1 + 1) fun x20 => (.inl (x20, (pm_up V3 76 (x1 : Int).toNat 0)))) else (pf_let (x1 + 1) fun x22 => (.inl (x22, (pm_up V3 76 (x1 : Int).toNat 1)))))) else ((if ¬ (x1 = a1) then (pf_let (x1 + 1) fun x25 => (.inl (x25, (pm_up V3 77 (x1 : Int).toNat 0)))) else (pf_let (x1 + 1) fun x27 => (.inl (x27, (pm_up V3 77 (x1 : Int).toNat 1)))))))))) else (pf_let (V3 51 0) fun y29 => (if y29 ≤ x1 then ((.inr (0, (pm_up V3 73 14 1)))) else ((if V3 73 13 = 76 then ((if ¬ (x1 = a1) then (pf_let (x1 + 1) fun x35 => (.inl (x35, (pm_up V3 76 (x1 : Int).toNat 0)))) else (pf_let (x1 + 1) fun x37 => (.inl (x37, (pm_up V3 76 (x1 : Int).toNat 1)))))) else ((if ¬ (x1 = a1) then (pf_let (x1 + 1) fun x40 => (.inl (x40, (pm_up V3 77 (x1 : Int).toNat 0)))) else (pf_let (x1 + 1) fun x42 => (.inl (x42, (pm_up V3 77 (x1 : Int).toNat 1))))))))))))) (0, V0) := rfl
noncomputable def F_X10_weighLearnt (V0 : pm_M) : Int × pm_M := (if V0 73 0 = 45 then (pf_let (V0 73 1) fun y2 => pf_let (V0 73 2) fun y5 => pf_call (F_X5_learntOf 45 y2 y5 V0) fun y11 _ => (if ¬ (y11 = (-1)) then (pf_call (F_X10_weighSingle y11 V0) fun _ V16 => (0, V16)) else (pf_call (F_X10_weighOdds  V0) fun _ V26 => (0, V26)))) else (pf_let (V0 73 1) fun y35 => pf_let (V0 73 2) fun y38 => pf_call (F_X5_learntOf 51 y35 y38 V0) fun y44 _ => (if ¬ (y44 = (-1)) then (pf_call (F_X10_weighSingle y44 V0) fun _ V49 => (0, V49)) else (pf_call (F_X10_weighOdds  V0) fun _ V59 => (0, V59)))))
theorem F_X10_weighLearnt_eq (V0 : pm_M) : F_X10_weighLearnt V0 = (if V0 73 0 = 45 then (pf_let (V0 73 1) fun y2 => pf_let (V0 73 2) fun y5 => pf_call (F_X5_learntOf 45 y2 y5 V0) fun y11 _ => (if ¬ (y11 = (-1)) then (pf_call (F_X10_weighSingle y11 V0) fun _ V16 => (0, V16)) else (pf_call (F_X10_weighOdds  V0) fun _ V26 => (0, V26)))) else (pf_let (V0 73 1) fun y35 => pf_let (V0 73 2) fun y38 => pf_call (F_X5_learntOf 51 y35 y38 V0) fun y44 _ => (if ¬ (y44 = (-1)) then (pf_call (F_X10_weighSingle y44 V0) fun _ V49 => (0, V49)) else (pf_call (F_X10_weighOdds  V0) fun _ V59 => (0, V59))))) := rfl
noncomputable def F_X10_soundBetween (V0 : pm_M) : Int × pm_M := pf_let (V0 73 5) fun y1 => pf_let (V0 73 6) fun y4 => pf_let (pm_mx 1 (y1 + y4)) fun y7 => (if V0 73 0 = 45 then (pf_let (V0 73 1) fun y12 => pf_let (V0 46 (y12 : Int).toNat) fun y15 => pf_let ((y15 * y4)) fun y18 => pf_let (V0 73 2) fun y20 => pf_let (V0 46 (y20 : Int).toNat) fun y23 => pf_let ((y23 * y1)) fun y26 => pf_let (((y18 + y26) / y7)) fun y28 => pf_val ((0 : Int), V0) (fun (q : Int × Int) => match q with | (x30, x32) => (pf_let (V0 45 0) fun y41 => (if y41 ≤ x32 then ((.inr (x30, V0))) else (pf_let (V0 47 (y12 : Int).toNat) fun y46 => pf_call (F_X10_farFrom x32 y28 y46 V0) fun y52 _ => pf_call (F_X10_farFrom x30 y28 y46 V0) fun y58 _ => (if y58 ≤ y52 then (pf_let (x32 + 1) fun x62 => (.inl (x30, x62))) else (pf_let (x32 + 1) fun x64 => (.inl (x32, x64)))))))) (0, 1)) else (pf_let (V0 73 1) fun y67 => pf_let (V0 52 (y67 : Int).toNat) fun y70 => pf_let ((y70 * y4)) fun y73 => pf_let (V0 73 2) fun y75 => pf_let (V0 52 (y75 : Int).toNat) fun y78 => pf_let ((y78 * y1)) fun y81 => pf_let (((y73 + y81) / y7)) fun y83 => pf_val ((0 : Int), V0) (fun (q : Int × Int) => match q with | (x85, x87) => (pf_let (V0 51 0) fun y96 => (if y96 ≤ x87 then ((.inr (x85, V0))) else (pf_let (V0 53 (y67 : Int).toNat) fun y101 => pf_call (F_X10_farFrom x87 y83 y101 V0) fun y107 _ => pf_call (F_X10_farFrom x85 y83 y101 V0) fun y113 _ => (if y113 ≤ y107 then (pf_let (x87 + 1) fun x117 => (.inl (x85, x117))) else (pf_let (x87 + 1) fun x119 => (.inl (x87, x119)))))))) (0, 1)))
theorem F_X10_soundBetween_eq (V0 : pm_M) : F_X10_soundBetween V0 = pf_let (V0 73 5) fun y1 => pf_let (V0 73 6) fun y4 => pf_let (pm_mx 1 (y1 + y4)) fun y7 => (if V0 73 0 = 45 then (pf_let (V0 73 1) fun y12 => pf_let (V0 46 (y12 : Int).toNat) fun y15 => pf_let ((y15 * y4)) fun y18 => pf_let (V0 73 2) fun y20 => pf_let (V0 46 (y20 : Int).toNat) fun y23 => pf_let ((y23 * y1)) fun y26 => pf_let (((y18 + y26) / y7)) fun y28 => pf_val ((0 : Int), V0) (fun (q : Int × Int) => match q with | (x30, x32) => (pf_let (V0 45 0) fun y41 => (if y41 ≤ x32 then ((.inr (x30, V0))) else (pf_let (V0 47 (y12 : Int).toNat) fun y46 => pf_call (F_X10_farFrom x32 y28 y46 V0) fun y52 _ => pf_call (F_X10_farFrom x30 y28 y46 V0) fun y58 _ => (if y58 ≤ y52 then (pf_let (x32 + 1) fun x62 => (.inl (x30, x62))) else (pf_let (x32 + 1) fun x64 => (.inl (x32, x64)))))))) (0, 1)) else (pf_let (V0 73 1) fun y67 => pf_let (V0 52 (y67 : Int).toNat) fun y70 => pf_let ((y70 * y4)) fun y73 => pf_let (V0 73 2) fun y75 => pf_let (V0 52 (y75 : Int).toNat) fun y78 => pf_let ((y78 * y1)) fun y81 => pf_let (((y73 + y81) / y7)) fun y83 => pf_val ((0 : Int), V0) (fun (q : Int × Int) => match q with | (x85, x87) => (pf_let (V0 51 0) fun y96 => (if y96 ≤ x87 then ((.inr (x85, V0))) else (pf_let (V0 53 (y67 : Int).toNat) fun y101 => pf_call (F_X10_farFrom x87 y83 y101 V0) fun y107 _ => pf_call (F_X10_farFrom x85 y83 y101 V0) fun y113 _ => (if y113 ≤ y107 then (pf_let (x87 + 1) fun x117 => (.inl (x85, x117))) else (pf_let (x87 + 1) fun x119 => (.inl (x87, x119)))))))) (0, 1))) := rfl
noncomputable def F_X10_weigh (a1 : Int) (V0 : pm_M) : Int × pm_M := (if a1 < 1 ∨ 6 < a1 then (pf_call (F_X10_weighVoice  V0) fun _ V3 => (0, V3)) else (if a1 = 1 then (pf_call (F_X10_weighFace  V0) fun _ V10 => (0, V10)) else (if a1 = 2 then (pf_call (F_X10_weighSurer  V0) fun _ V17 => (0, V17)) else (if a1 = 3 then (pf_call (F_X10_weighOne  V0) fun _ V24 => (0, V24)) else (if a1 = 4 then (pf_call (F_X10_weighOdds  V0) fun _ V31 => (0, V31)) else (if a1 = 5 then (pf_call (F_X10_weighLearnt  V0) fun _ V38 => (0, V38)) else (if a1 = 6 then (pf_call (F_X10_soundBetween  V0) fun y47 _ => pf_call (F_X10_weighSingle y47 V0) fun _ V51 => (0, V51)) else (((0 : Int), V0)))))))))
theorem F_X10_weigh_eq (a1 : Int) (V0 : pm_M) : F_X10_weigh a1 V0 = (if a1 < 1 ∨ 6 < a1 then (pf_call (F_X10_weighVoice  V0) fun _ V3 => (0, V3)) else (if a1 = 1 then (pf_call (F_X10_weighFace  V0) fun _ V10 => (0, V10)) else (if a1 = 2 then (pf_call (F_X10_weighSurer  V0) fun _ V17 => (0, V17)) else (if a1 = 3 then (pf_call (F_X10_weighOne  V0) fun _ V24 => (0, V24)) else (if a1 = 4 then (pf_call (F_X10_weighOdds  V0) fun _ V31 => (0, V31)) else (if a1 = 5 then (pf_call (F_X10_weighLearnt  V0) fun _ V38 => (0, V38)) else (if a1 = 6 then (pf_call (F_X10_soundBetween  V0) fun y47 _ => pf_call (F_X10_weighSingle y47 V0) fun _ V51 => (0, V51)) else (((0 : Int), V0))))))))) := rfl
noncomputable def F_X11_weighs (a1 a2 a3 a4 : Int) (V0 : pm_M) : Int × pm_M := pf_call (F_X11_isLaw a1 V0) fun y4 _ => (if y4 = 0 then ((0, V0)) else (pf_call (F_X11_isTrial a2 a3 a4 V0) fun y11 _ => (if ¬ (y11 = 0) then (pf_call (F_X11_pose a2 a3 a4 V0) fun _ V16 => pf_call (F_X10_weigh a1 V16) fun _ V24 => (1, V24)) else ((0, V0)))))
theorem F_X11_weighs_eq (a1 a2 a3 a4 : Int) (V0 : pm_M) : F_X11_weighs a1 a2 a3 a4 V0 = pf_call (F_X11_isLaw a1 V0) fun y4 _ => (if y4 = 0 then ((0, V0)) else (pf_call (F_X11_isTrial a2 a3 a4 V0) fun y11 _ => (if ¬ (y11 = 0) then (pf_call (F_X11_pose a2 a3 a4 V0) fun _ V16 => pf_call (F_X10_weigh a1 V16) fun _ V24 => (1, V24)) else ((0, V0))))) := rfl
noncomputable def F_X11_weight (a1 a2 a3 a4 a5 : Int) (V0 : pm_M) : Int × pm_M := (if a5 = (-1) then (pf_call (F_X11_weighs a1 a2 a3 a4 V0) fun y6 V4 => (if ¬ (y6 = 0) then ((if ¬ (a5 = (-1)) then (((0 : Int), V0)) else (pf_let (V4 73 14) fun y15 => pf_let (pm_w32 y15) fun y18 => (y18, V4)))) else (((-1), V4)))) else (pf_call (F_X11_isSound a5 V0) fun y24 _ => (if y24 = 0 then (((-1), V0)) else (pf_call (F_X11_weighs a1 a2 a3 a4 V0) fun y33 V31 => (if ¬ (y33 = 0) then ((if ¬ (a5 = (-1)) then ((if V31 73 13 = 76 then (pf_let (V31 76 (a5 : Int).toNat) fun y43 => pf_let (pm_w32 y43) fun y46 => (y46, V31)) else (pf_let (V31 77 (a5 : Int).toNat) fun y49 => pf_let (pm_w32 y49) fun y52 => (y52, V31)))) else (((0 : Int), V0)))) else (((-1), V31)))))))
theorem F_X11_weight_eq (a1 a2 a3 a4 a5 : Int) (V0 : pm_M) : F_X11_weight a1 a2 a3 a4 a5 V0 = (if a5 = (-1) then (pf_call (F_X11_weighs a1 a2 a3 a4 V0) fun y6 V4 => (if ¬ (y6 = 0) then ((if ¬ (a5 = (-1)) then (((0 : Int), V0)) else (pf_let (V4 73 14) fun y15 => pf_let (pm_w32 y15) fun y18 => (y18, V4)))) else (((-1), V4)))) else (pf_call (F_X11_isSound a5 V0) fun y24 _ => (if y24 = 0 then (((-1), V0)) else (pf_call (F_X11_weighs a1 a2 a3 a4 V0) fun y33 V31 => (if ¬ (y33 = 0) then ((if ¬ (a5 = (-1)) then ((if V31 73 13 = 76 then (pf_let (V31 76 (a5 : Int).toNat) fun y43 => pf_let (pm_w32 y43) fun y46 => (y46, V31)) else (pf_let (V31 77 (a5 : Int).toNat) fun y49 => pf_let (pm_w32 y49) fun y52 => (y52, V31)))) else (((0 : Int), V0)))) else (((-1), V31))))))) := rfl
noncomputable def F_X11_ofThousand (a1 a2 : Int) (V0 : pm_M) : Int × pm_M := pf_let (pm_cmp a2 0) fun y1 => (if 0 < y1 then (pf_let (pm_w64 (a1 * 1000)) fun y4 => pf_let (pm_w64 (Int.tdiv y4 a2)) fun y7 => pf_let (pm_w32 y7) fun y10 => (y10, V0)) else ((0, V0)))
theorem F_X11_ofThousand_eq (a1 a2 : Int) (V0 : pm_M) : F_X11_ofThousand a1 a2 V0 = pf_let (pm_cmp a2 0) fun y1 => (if 0 < y1 then (pf_let (pm_w64 (a1 * 1000)) fun y4 => pf_let (pm_w64 (Int.tdiv y4 a2)) fun y7 => pf_let (pm_w32 y7) fun y10 => (y10, V0)) else ((0, V0))) := rfl
noncomputable def F_X10_chanceOf (a1 : Int) (V0 : pm_M) : Int × pm_M := (if V0 73 13 = 76 then (pf_let (V0 76 (a1 : Int).toNat) fun y2 => pf_let (V0 73 14) fun y5 => pf_call (F_X11_ofThousand y2 y5 V0) fun y11 _ => (y11, V0)) else (pf_let (V0 77 (a1 : Int).toNat) fun y14 => pf_let (V0 73 14) fun y17 => pf_call (F_X11_ofThousand y14 y17 V0) fun y23 _ => (y23, V0)))
theorem F_X10_chanceOf_eq (a1 : Int) (V0 : pm_M) : F_X10_chanceOf a1 V0 = (if V0 73 13 = 76 then (pf_let (V0 76 (a1 : Int).toNat) fun y2 => pf_let (V0 73 14) fun y5 => pf_call (F_X11_ofThousand y2 y5 V0) fun y11 _ => (y11, V0)) else (pf_let (V0 77 (a1 : Int).toNat) fun y14 => pf_let (V0 73 14) fun y17 => pf_call (F_X11_ofThousand y14 y17 V0) fun y23 _ => (y23, V0))) := rfl
noncomputable def F_X11_chance (a1 a2 a3 a4 a5 : Int) (V0 : pm_M) : Int × pm_M := pf_call (F_X11_isSound a5 V0) fun y4 _ => (if y4 = 0 then (((-1), V0)) else (pf_call (F_X11_weighs a1 a2 a3 a4 V0) fun y11 V9 => (if ¬ (y11 = 0) then (pf_call (F_X10_chanceOf a5 V9) fun y22 _ => (y22, V9)) else (((-1), V9)))))
theorem F_X11_chance_eq (a1 a2 a3 a4 a5 : Int) (V0 : pm_M) : F_X11_chance a1 a2 a3 a4 a5 V0 = pf_call (F_X11_isSound a5 V0) fun y4 _ => (if y4 = 0 then (((-1), V0)) else (pf_call (F_X11_weighs a1 a2 a3 a4 V0) fun y11 V9 => (if ¬ (y11 = 0) then (pf_call (F_X10_chanceOf a5 V9) fun y22 _ => (y22, V9)) else (((-1), V9))))) := rfl
noncomputable def F_X11_isKind (a1 : Int) (V0 : pm_M) : Int × pm_M := (if a1 < 0 then ((0, V0)) else ((if 3 < a1 then ((0, V0)) else ((1, V0)))))
theorem F_X11_isKind_eq (a1 : Int) (V0 : pm_M) : F_X11_isKind a1 V0 = (if a1 < 0 then ((0, V0)) else ((if 3 < a1 then ((0, V0)) else ((1, V0))))) := rfl
noncomputable def F_X11_kindOfSaid (a1 a2 a3 : Int) (V0 : pm_M) : Int × pm_M := (if ¬ (a1 = a2) then ((if ¬ (a3 = a1) then ((if ¬ (a3 = a2) then ((3, V0)) else ((2, V0)))) else ((1, V0)))) else ((if ¬ (a3 = a1) then ((3, V0)) else ((0, V0)))))
theorem F_X11_kindOfSaid_eq (a1 a2 a3 : Int) (V0 : pm_M) : F_X11_kindOfSaid a1 a2 a3 V0 = (if ¬ (a1 = a2) then ((if ¬ (a3 = a1) then ((if ¬ (a3 = a2) then ((3, V0)) else ((2, V0)))) else ((1, V0)))) else ((if ¬ (a3 = a1) then ((3, V0)) else ((0, V0))))) := rfl
noncomputable def F_X10_chanceOfKind (a1 : Int) (V0 : pm_M) : Int × pm_M := pf_val ((0 : Int), V0) (fun (q : Int × Int) => match q with | (x1, x3) => ((if V0 73 0 = 45 then (pf_let (V0 45 0) fun y13 => (if y13 ≤ x3 then (pf_let (V0 73 14) fun y17 => pf_call (F_X11_ofThousand x1 y17 V0) fun y23 _ => (.inr (y23, V0))) else (pf_let (V0 73 1) fun y26 => pf_let (V0 73 2) fun y29 => pf_call (F_X11_kindOfSaid y26 y29 x3 V0) fun y35 _ => (if ¬ (y35 = a1) then (pf_let (x3 + 1) fun x39 => (.inl (x1, x39))) else ((if V0 73 13 = 76 then (pf_let (V0 76 (x3 : Int).toNat) fun y42 => pf_let (pm_w64 (x1 + y42)) fun y45 => pf_let (x3 + 1) fun x48 => (.inl (y45, x48))) else (pf_let (V0 77 (x3 : Int).toNat) fun y50 => pf_let (pm_w64 (x1 + y50)) fun y53 => pf_let (x3 + 1) fun x56 => (.inl (y53, x56))))))))) else (pf_let (V0 51 0) fun y58 => (if y58 ≤ x3 then (pf_let (V0 73 14) fun y62 => pf_call (F_X11_ofThousand x1 y62 V0) fun y68 _ => (.inr (y68, V0))) else (pf_let (V0 73 1) fun y71 => pf_let (V0 73 2) fun y74 => pf_call (F_X11_kindOfSaid y71 y74 x3 V0) fun y80 _ => (if ¬ (y80 = a1) then (pf_let (x3 + 1) fun x84 => (.inl (x1, x84))) else ((if V0 73 13 = 76 then (pf_let (V0 76 (x3 : Int).toNat) fun y87 => pf_let (pm_w64 (x1 + y87)) fun y90 => pf_let (x3 + 1) fun x93 => (.inl (y90, x93))) else (pf_let (V0 77 (x3 : Int).toNat) fun y95 => pf_let (pm_w64 (x1 + y95)) fun y98 => pf_let (x3 + 1) fun x101 => (.inl (y98, x101)))))))))))) (0, 0)
theorem F_X10_chanceOfKind_eq (a1 : Int) (V0 : pm_M) : F_X10_chanceOfKind a1 V0 = pf_val ((0 : Int), V0) (fun (q : Int × Int) => match q with | (x1, x3) => ((if V0 73 0 = 45 then (pf_let (V0 45 0) fun y13 => (if y13 ≤ x3 then (pf_let (V0 73 14) fun y17 => pf_call (F_X11_ofThousand x1 y17 V0) fun y23 _ => (.inr (y23, V0))) else (pf_let (V0 73 1) fun y26 => pf_let (V0 73 2) fun y29 => pf_call (F_X11_kindOfSaid y26 y29 x3 V0) fun y35 _ => (if ¬ (y35 = a1) then (pf_let (x3 + 1) fun x39 => (.inl (x1, x39))) else ((if V0 73 13 = 76 then (pf_let (V0 76 (x3 : Int).toNat) fun y42 => pf_let (pm_w64 (x1 + y42)) fun y45 => pf_let (x3 + 1) fun x48 => (.inl (y45, x48))) else (pf_let (V0 77 (x3 : Int).toNat) fun y50 => pf_let (pm_w64 (x1 + y50)) fun y53 => pf_let (x3 + 1) fun x56 => (.inl (y53, x56))))))))) else (pf_let (V0 51 0) fun y58 => (if y58 ≤ x3 then (pf_let (V0 73 14) fun y62 => pf_call (F_X11_ofThousand x1 y62 V0) fun y68 _ => (.inr (y68, V0))) else (pf_let (V0 73 1) fun y71 => pf_let (V0 73 2) fun y74 => pf_call (F_X11_kindOfSaid y71 y74 x3 V0) fun y80 _ => (if ¬ (y80 = a1) then (pf_let (x3 + 1) fun x84 => (.inl (x1, x84))) else ((if V0 73 13 = 76 then (pf_let (V0 76 (x3 : Int).toNat) fun y87 => pf_let (pm_w64 (x1 + y87)) fun y90 => pf_let (x3 + 1) fun x93 => (.inl (y90, x93))) else (pf_let (V0 77 (x3 : Int).toNat) fun y95 => pf_let (pm_w64 (x1 + y95)) fun y98 => pf_let (x3 + 1) fun x101 => (.inl (y98, x101)))))))))))) (0, 0) := rfl
set_option maxHeartbeats 4000000 in
set_option maxRecDepth 100000 in
theorem fD_X10_mostLikely_73  : pm_K 1 yX10_mostLikely cX10_mostLikely 3 (some .int) (fun av V => av = [(3, 73)] ∧ pm_ok 0 90 V) (fun _ V r V' => ∃ y, r = some (0, y) ∧ (0 ≤ y ∧ y ≤ 8) ∧ V = V' ∧ F_X10_mostLikely  V = (y, V)) := by
  refine pm_MT.of (by decide) ⟨Nat.le_refl _, by decide⟩ (fun av V h => by rw [h.1]; exact (by decide : pm_words [(3, 0)] ≤ 3)) ?_
  rintro X av V0 hC - hR ⟨rfl, hV0⟩
  change pm_J X 0 [(0, (3, 73))] [] 118 V0
  have hT := F_X10_mostLikely_eq  V0
  refine pm_iconst (v := 0) hC dX10_mostLikely_0 ?_
  refine pm_istore_n (lv' := [(1, (0, 0)), (0, (3, 73))]) hC dX10_mostLikely_1 (by decide) rfl ?_
  refine pm_iconst (v := 1) hC dX10_mostLikely_2 ?_
  refine pm_istore_n (lv' := [(2, (0, 1)), (1, (0, 0)), (0, (3, 73))]) hC dX10_mostLikely_3 (by decide) rfl ?_
  obtain ⟨B5, hB6, hT⟩ := pf_loop hT
  have L8 : ∀ (N10 : Nat) (x1 : Int) (x3 : Int), (0 ≤ x1 ∧ x1 ≤ 8) → (1 ≤ x3 ∧ x3 ≤ 9) → F_X10_mostLikely  V0 = pf_val ((0 : Int), V0) B5 (x1, x3) → (Int.toNat (9 - x3)) = N10 → pm_J X 4 [(0, (3, 73)), (1, (0, x1)), (2, (0, x3))] [] 118 V0 := by
    intro N10
    induction N10 using Nat.strongRecOn with
    | _ N10 ih11 =>
    intro x1 x3 b2 b4 hT hm9
    have hb7 := congrFun hB6 (x1, x3)
    refine pm_iload_n hC 2 dX10_mostLikely_4 rfl ?_
    refine pm_aload_n hC 0 (by decide) dX10_mostLikely_5 rfl ?_
    rcases hV0.get2 73 0 (lo := 45) (hi := 51) (by decide) (by decide) rfl with e12 | e12
    · skip
      replace hb7 := hb7.trans (if_pos e12)
      refine pm_getf (v := 45) hC 73 fl_X10_59 rfl rfl (by decide) rfl e12 dX10_mostLikely_6 ?_
      obtain ⟨y13, e14⟩ : ∃ y, V0 45 0 = y := ⟨_, rfl⟩
      have b15 := hV0.get 45 0 (lo := 0) (hi := 9) (by decide) (by decide) rfl
      rw [e14] at b15
      replace hb7 := hb7.trans (pf_let_eq e14)
      refine pm_getf (v := y13) hC 45 fl_X10_79 rfl rfl (by decide) rfl e14 dX10_mostLikely_9 ?_
      refine pm_icmp_ge (tgt := 39) hC ⟨by omega, by omega⟩ ⟨by omega, by omega⟩ dX10_mostLikely_12 (by decide) (fun c16 => ?_) (fun c16 => ?_)
      · skip
        replace hb7 := hb7.trans (if_pos c16)
        refine pm_iload_n hC 1 dX10_mostLikely_39 rfl ?_
        have hT := hT.trans (pf_val_inr hb7)
        exact pm_iret hC hR pm_nar0 ⟨x1, rfl, ⟨by omega, by omega⟩, rfl, hT⟩ dX10_mostLikely_40
      · skip
        replace hb7 := hb7.trans (if_neg (Int.not_le.mpr c16))
        refine pm_aload_n hC 0 (by decide) dX10_mostLikely_15 rfl ?_
        rcases hV0.get2 73 13 (lo := 76) (hi := 77) (by decide) (by decide) rfl with e17 | e17
        · skip
          replace hb7 := hb7.trans (if_pos e17)
          refine pm_getf (v := 76) hC 73 fl_X10_50 rfl rfl (by decide) rfl e17 dX10_mostLikely_16 ?_
          refine pm_iload_n hC 2 dX10_mostLikely_19 rfl ?_
          obtain ⟨y18, e19⟩ : ∃ y, V0 76 (x3 : Int).toNat = y := ⟨_, rfl⟩
          replace hb7 := hb7.trans (pf_let_eq e19)
          have b20 := hV0.get 76 (x3 : Int).toNat (lo := (-9223372036854775808)) (hi := 9223372036854775807) (by decide) (show _ < 9 by omega) rfl
          rw [e19] at b20
          refine pm_laload (len := 9) (v := y18) hC 76 rfl rfl (by decide) ⟨by omega, by omega⟩ (by decide) e19 dX10_mostLikely_20 ?_
          refine pm_aload_n hC 0 (by decide) dX10_mostLikely_21 rfl ?_
          refine pm_getf (v := 76) hC 73 fl_X10_50 rfl rfl (by decide) rfl e17 dX10_mostLikely_22 ?_
          refine pm_iload_n hC 1 dX10_mostLikely_25 rfl ?_
          obtain ⟨y21, e22⟩ : ∃ y, V0 76 (x1 : Int).toNat = y := ⟨_, rfl⟩
          replace hb7 := hb7.trans (pf_let_eq e22)
          have b23 := hV0.get 76 (x1 : Int).toNat (lo := (-9223372036854775808)) (hi := 9223372036854775807) (by decide) (show _ < 9 by omega) rfl
          rw [e22] at b23
          refine pm_laload (len := 9) (v := y21) hC 76 rfl rfl (by decide) ⟨by omega, by omega⟩ (by decide) e22 dX10_mostLikely_26 ?_
          refine pm_lcmp hC ⟨by omega, by omega⟩ ⟨by omega, by omega⟩ dX10_mostLikely_27 (fun y24 b25 => ?_)
          replace hb7 := hb7.trans (pf_let_eq (pm_cmp_u b25))
          refine pm_if_le (tgt := 33) hC ⟨by omega, by omega⟩ dX10_mostLikely_28 (by decide) (fun c26 => ?_) (fun c26 => ?_)
          · skip
            replace hb7 := hb7.trans (if_pos c26)
            obtain ⟨x27, ei28⟩ : ∃ y : Int, x3 + 1 = y := ⟨_, rfl⟩
            replace hb7 := hb7.trans (pf_let_eq ei28)
            refine pm_iinc (y := x27) (lv' := [(2, (0, x27)), (0, (3, 73)), (1, (0, x1))]) hC 2 dX10_mostLikely_33 (by decide) rfl ei28 rfl ?_
            refine pm_goto (tgt := 4) hC dX10_mostLikely_36 (by decide) ?_
            refine pm_lvsub [1, 2, 0] (lv' := [(0, (3, 73)), (1, (0, x1)), (2, (0, x27))]) rfl ?_
            exact ih11 _ (by omega) x1 x27 ⟨by omega, by omega⟩ ⟨by omega, by omega⟩ (hT.trans (pf_val_inl hb7)) rfl
          · skip
            replace hb7 := hb7.trans (if_neg (Int.not_le.mpr c26))
            refine pm_iload_n hC 2 dX10_mostLikely_31 rfl ?_
            refine pm_istore_n (lv' := [(1, (0, x3)), (0, (3, 73)), (2, (0, x3))]) hC dX10_mostLikely_32 (by decide) rfl ?_
            obtain ⟨x29, ei30⟩ : ∃ y : Int, x3 + 1 = y := ⟨_, rfl⟩
            replace hb7 := hb7.trans (pf_let_eq ei30)
            refine pm_iinc (y := x29) (lv' := [(2, (0, x29)), (1, (0, x3)), (0, (3, 73))]) hC 2 dX10_mostLikely_33 (by decide) rfl ei30 rfl ?_
            refine pm_goto (tgt := 4) hC dX10_mostLikely_36 (by decide) ?_
            refine pm_lvsub [2, 1, 0] (lv' := [(0, (3, 73)), (1, (0, x3)), (2, (0, x29))]) rfl ?_
            exact ih11 _ (by omega) x3 x29 ⟨by omega, by omega⟩ ⟨by omega, by omega⟩ (hT.trans (pf_val_inl hb7)) rfl
        · skip
          replace hb7 := hb7.trans (if_neg (by rw [e17]; decide))
          refine pm_getf (v := 77) hC 73 fl_X10_50 rfl rfl (by decide) rfl e17 dX10_mostLikely_16 ?_
          refine pm_iload_n hC 2 dX10_mostLikely_19 rfl ?_
          obtain ⟨y31, e32⟩ : ∃ y, V0 77 (x3 : Int).toNat = y := ⟨_, rfl⟩
          replace hb7 := hb7.trans (pf_let_eq e32)
          have b33 := hV0.get 77 (x3 : Int).toNat (lo := (-9223372036854775808)) (hi := 9223372036854775807) (by decide) (show _ < 9 by omega) rfl
          rw [e32] at b33
          refine pm_laload (len := 9) (v := y31) hC 77 rfl rfl (by decide) ⟨by omega, by omega⟩ (by decide) e32 dX10_mostLikely_20 ?_
          refine pm_aload_n hC 0 (by decide) dX10_mostLikely_21 rfl ?_
          refine pm_getf (v := 77) hC 73 fl_X10_50 rfl rfl (by decide) rfl e17 dX10_mostLikely_22 ?_
          refine pm_iload_n hC 1 dX10_mostLikely_25 rfl ?_
          obtain ⟨y34, e35⟩ : ∃ y, V0 77 (x1 : Int).toNat = y := ⟨_, rfl⟩
          replace hb7 := hb7.trans (pf_let_eq e35)
          have b36 := hV0.get 77 (x1 : Int).toNat (lo := (-9223372036854775808)) (hi := 9223372036854775807) (by decide) (show _ < 9 by omega) rfl
          rw [e35] at b36
          refine pm_laload (len := 9) (v := y34) hC 77 rfl rfl (by decide) ⟨by omega, by omega⟩ (by decide) e35 dX10_mostLikely_26 ?_
          refine pm_lcmp hC ⟨by omega, by omega⟩ ⟨by omega, by omega⟩ dX10_mostLikely_27 (fun y37 b38 => ?_)
          replace hb7 := hb7.trans (pf_let_eq (pm_cmp_u b38))
          refine pm_if_le (tgt := 33) hC ⟨by omega, by omega⟩ dX10_mostLikely_28 (by decide) (fun c39 => ?_) (fun c39 => ?_)
          · skip
            replace hb7 := hb7.trans (if_pos c39)
            obtain ⟨x40, ei41⟩ : ∃ y : Int, x3 + 1 = y := ⟨_, rfl⟩
            replace hb7 := hb7.trans (pf_let_eq ei41)
            refine pm_iinc (y := x40) (lv' := [(2, (0, x40)), (0, (3, 73)), (1, (0, x1))]) hC 2 dX10_mostLikely_33 (by decide) rfl ei41 rfl ?_
            refine pm_goto (tgt := 4) hC dX10_mostLikely_36 (by decide) ?_
            refine pm_lvsub [1, 2, 0] (lv' := [(0, (3, 73)), (1, (0, x1)), (2, (0, x40))]) rfl ?_
            exact ih11 _ (by omega) x1 x40 ⟨by omega, by omega⟩ ⟨by omega, by omega⟩ (hT.trans (pf_val_inl hb7)) rfl
          · skip
            replace hb7 := hb7.trans (if_neg (Int.not_le.mpr c39))
            refine pm_iload_n hC 2 dX10_mostLikely_31 rfl ?_
            refine pm_istore_n (lv' := [(1, (0, x3)), (0, (3, 73)), (2, (0, x3))]) hC dX10_mostLikely_32 (by decide) rfl ?_
            obtain ⟨x42, ei43⟩ : ∃ y : Int, x3 + 1 = y := ⟨_, rfl⟩
            replace hb7 := hb7.trans (pf_let_eq ei43)
            refine pm_iinc (y := x42) (lv' := [(2, (0, x42)), (1, (0, x3)), (0, (3, 73))]) hC 2 dX10_mostLikely_33 (by decide) rfl ei43 rfl ?_
            refine pm_goto (tgt := 4) hC dX10_mostLikely_36 (by decide) ?_
            refine pm_lvsub [2, 1, 0] (lv' := [(0, (3, 73)), (1, (0, x3)), (2, (0, x42))]) rfl ?_
            exact ih11 _ (by omega) x3 x42 ⟨by omega, by omega⟩ ⟨by omega, by omega⟩ (hT.trans (pf_val_inl hb7)) rfl
    · skip
      replace hb7 := hb7.trans (if_neg (by rw [e12]; decide))
      refine pm_getf (v := 51) hC 73 fl_X10_59 rfl rfl (by decide) rfl e12 dX10_mostLikely_6 ?_
      obtain ⟨y44, e45⟩ : ∃ y, V0 51 0 = y := ⟨_, rfl⟩
      have b46 := hV0.get 51 0 (lo := 0) (hi := 9) (by decide) (by decide) rfl
      rw [e45] at b46
      replace hb7 := hb7.trans (pf_let_eq e45)
      refine pm_getf (v := y44) hC 51 fl_X10_79 rfl rfl (by decide) rfl e45 dX10_mostLikely_9 ?_
      refine pm_icmp_ge (tgt := 39) hC ⟨by omega, by omega⟩ ⟨by omega, by omega⟩ dX10_mostLikely_12 (by decide) (fun c47 => ?_) (fun c47 => ?_)
      · skip
        replace hb7 := hb7.trans (if_pos c47)
        refine pm_iload_n hC 1 dX10_mostLikely_39 rfl ?_
        have hT := hT.trans (pf_val_inr hb7)
        exact pm_iret hC hR pm_nar0 ⟨x1, rfl, ⟨by omega, by omega⟩, rfl, hT⟩ dX10_mostLikely_40
      · skip
        replace hb7 := hb7.trans (if_neg (Int.not_le.mpr c47))
        refine pm_aload_n hC 0 (by decide) dX10_mostLikely_15 rfl ?_
        rcases hV0.get2 73 13 (lo := 76) (hi := 77) (by decide) (by decide) rfl with e48 | e48
        · skip
          replace hb7 := hb7.trans (if_pos e48)
          refine pm_getf (v := 76) hC 73 fl_X10_50 rfl rfl (by decide) rfl e48 dX10_mostLikely_16 ?_
          refine pm_iload_n hC 2 dX10_mostLikely_19 rfl ?_
          obtain ⟨y49, e50⟩ : ∃ y, V0 76 (x3 : Int).toNat = y := ⟨_, rfl⟩
          replace hb7 := hb7.trans (pf_let_eq e50)
          have b51 := hV0.get 76 (x3 : Int).toNat (lo := (-9223372036854775808)) (hi := 9223372036854775807) (by decide) (show _ < 9 by omega) rfl
          rw [e50] at b51
          refine pm_laload (len := 9) (v := y49) hC 76 rfl rfl (by decide) ⟨by omega, by omega⟩ (by decide) e50 dX10_mostLikely_20 ?_
          refine pm_aload_n hC 0 (by decide) dX10_mostLikely_21 rfl ?_
          refine pm_getf (v := 76) hC 73 fl_X10_50 rfl rfl (by decide) rfl e48 dX10_mostLikely_22 ?_
          refine pm_iload_n hC 1 dX10_mostLikely_25 rfl ?_
          obtain ⟨y52, e53⟩ : ∃ y, V0 76 (x1 : Int).toNat = y := ⟨_, rfl⟩
          replace hb7 := hb7.trans (pf_let_eq e53)
          have b54 := hV0.get 76 (x1 : Int).toNat (lo := (-9223372036854775808)) (hi := 9223372036854775807) (by decide) (show _ < 9 by omega) rfl
          rw [e53] at b54
          refine pm_laload (len := 9) (v := y52) hC 76 rfl rfl (by decide) ⟨by omega, by omega⟩ (by decide) e53 dX10_mostLikely_26 ?_
          refine pm_lcmp hC ⟨by omega, by omega⟩ ⟨by omega, by omega⟩ dX10_mostLikely_27 (fun y55 b56 => ?_)
          replace hb7 := hb7.trans (pf_let_eq (pm_cmp_u b56))
          refine pm_if_le (tgt := 33) hC ⟨by omega, by omega⟩ dX10_mostLikely_28 (by decide) (fun c57 => ?_) (fun c57 => ?_)
          · skip
            replace hb7 := hb7.trans (if_pos c57)
            obtain ⟨x58, ei59⟩ : ∃ y : Int, x3 + 1 = y := ⟨_, rfl⟩
            replace hb7 := hb7.trans (pf_let_eq ei59)
            refine pm_iinc (y := x58) (lv' := [(2, (0, x58)), (0, (3, 73)), (1, (0, x1))]) hC 2 dX10_mostLikely_33 (by decide) rfl ei59 rfl ?_
            refine pm_goto (tgt := 4) hC dX10_mostLikely_36 (by decide) ?_
            refine pm_lvsub [1, 2, 0] (lv' := [(0, (3, 73)), (1, (0, x1)), (2, (0, x58))]) rfl ?_
            exact ih11 _ (by omega) x1 x58 ⟨by omega, by omega⟩ ⟨by omega, by omega⟩ (hT.trans (pf_val_inl hb7)) rfl
          · skip
            replace hb7 := hb7.trans (if_neg (Int.not_le.mpr c57))
            refine pm_iload_n hC 2 dX10_mostLikely_31 rfl ?_
            refine pm_istore_n (lv' := [(1, (0, x3)), (0, (3, 73)), (2, (0, x3))]) hC dX10_mostLikely_32 (by decide) rfl ?_
            obtain ⟨x60, ei61⟩ : ∃ y : Int, x3 + 1 = y := ⟨_, rfl⟩
            replace hb7 := hb7.trans (pf_let_eq ei61)
            refine pm_iinc (y := x60) (lv' := [(2, (0, x60)), (1, (0, x3)), (0, (3, 73))]) hC 2 dX10_mostLikely_33 (by decide) rfl ei61 rfl ?_
            refine pm_goto (tgt := 4) hC dX10_mostLikely_36 (by decide) ?_
            refine pm_lvsub [2, 1, 0] (lv' := [(0, (3, 73)), (1, (0, x3)), (2, (0, x60))]) rfl ?_
            exact ih11 _ (by omega) x3 x60 ⟨by omega, by omega⟩ ⟨by omega, by omega⟩ (hT.trans (pf_val_inl hb7)) rfl
        · skip
          replace hb7 := hb7.trans (if_neg (by rw [e48]; decide))
          refine pm_getf (v := 77) hC 73 fl_X10_50 rfl rfl (by decide) rfl e48 dX10_mostLikely_16 ?_
          refine pm_iload_n hC 2 dX10_mostLikely_19 rfl ?_
          obtain ⟨y62, e63⟩ : ∃ y, V0 77 (x3 : Int).toNat = y := ⟨_, rfl⟩
          replace hb7 := hb7.trans (pf_let_eq e63)
          have b64 := hV0.get 77 (x3 : Int).toNat (lo := (-9223372036854775808)) (hi := 9223372036854775807) (by decide) (show _ < 9 by omega) rfl
          rw [e63] at b64
          refine pm_laload (len := 9) (v := y62) hC 77 rfl rfl (by decide) ⟨by omega, by omega⟩ (by decide) e63 dX10_mostLikely_20 ?_
          refine pm_aload_n hC 0 (by decide) dX10_mostLikely_21 rfl ?_
          refine pm_getf (v := 77) hC 73 fl_X10_50 rfl rfl (by decide) rfl e48 dX10_mostLikely_22 ?_
          refine pm_iload_n hC 1 dX10_mostLikely_25 rfl ?_
          obtain ⟨y65, e66⟩ : ∃ y, V0 77 (x1 : Int).toNat = y := ⟨_, rfl⟩
          replace hb7 := hb7.trans (pf_let_eq e66)
          have b67 := hV0.get 77 (x1 : Int).toNat (lo := (-9223372036854775808)) (hi := 9223372036854775807) (by decide) (show _ < 9 by omega) rfl
          rw [e66] at b67
          refine pm_laload (len := 9) (v := y65) hC 77 rfl rfl (by decide) ⟨by omega, by omega⟩ (by decide) e66 dX10_mostLikely_26 ?_
          refine pm_lcmp hC ⟨by omega, by omega⟩ ⟨by omega, by omega⟩ dX10_mostLikely_27 (fun y68 b69 => ?_)
          replace hb7 := hb7.trans (pf_let_eq (pm_cmp_u b69))
          refine pm_if_le (tgt := 33) hC ⟨by omega, by omega⟩ dX10_mostLikely_28 (by decide) (fun c70 => ?_) (fun c70 => ?_)
          · skip
            replace hb7 := hb7.trans (if_pos c70)
            obtain ⟨x71, ei72⟩ : ∃ y : Int, x3 + 1 = y := ⟨_, rfl⟩
            replace hb7 := hb7.trans (pf_let_eq ei72)
            refine pm_iinc (y := x71) (lv' := [(2, (0, x71)), (0, (3, 73)), (1, (0, x1))]) hC 2 dX10_mostLikely_33 (by decide) rfl ei72 rfl ?_
            refine pm_goto (tgt := 4) hC dX10_mostLikely_36 (by decide) ?_
            refine pm_lvsub [1, 2, 0] (lv' := [(0, (3, 73)), (1, (0, x1)), (2, (0, x71))]) rfl ?_
            exact ih11 _ (by omega) x1 x71 ⟨by omega, by omega⟩ ⟨by omega, by omega⟩ (hT.trans (pf_val_inl hb7)) rfl
          · skip
            replace hb7 := hb7.trans (if_neg (Int.not_le.mpr c70))
            refine pm_iload_n hC 2 dX10_mostLikely_31 rfl ?_
            refine pm_istore_n (lv' := [(1, (0, x3)), (0, (3, 73)), (2, (0, x3))]) hC dX10_mostLikely_32 (by decide) rfl ?_
            obtain ⟨x73, ei74⟩ : ∃ y : Int, x3 + 1 = y := ⟨_, rfl⟩
            replace hb7 := hb7.trans (pf_let_eq ei74)
            refine pm_iinc (y := x73) (lv' := [(2, (0, x73)), (1, (0, x3)), (0, (3, 73))]) hC 2 dX10_mostLikely_33 (by decide) rfl ei74 rfl ?_
            refine pm_goto (tgt := 4) hC dX10_mostLikely_36 (by decide) ?_
            refine pm_lvsub [2, 1, 0] (lv' := [(0, (3, 73)), (1, (0, x3)), (2, (0, x73))]) rfl ?_
            exact ih11 _ (by omega) x3 x73 ⟨by omega, by omega⟩ ⟨by omega, by omega⟩ (hT.trans (pf_val_inl hb7)) rfl
  refine pm_lvsub [2, 1, 0] (lv' := [(0, (3, 73)), (1, (0, 0)), (2, (0, 1))]) rfl ?_
  exact L8 _ 0 1 ⟨by decide, by decide⟩ ⟨by decide, by decide⟩ hT rfl
set_option maxHeartbeats 4000000 in
set_option maxRecDepth 100000 in
theorem fD_X10_greatestWeight_73  : pm_K 2 yX10_greatestWeight cX10_greatestWeight 1 (some .long) (fun av V => av = [(3, 73)] ∧ pm_ok 0 90 V) (fun _ V r V' => ∃ y, r = some (1, y) ∧ ((-9223372036854775808) ≤ y ∧ y ≤ 9223372036854775807) ∧ V = V' ∧ F_X10_greatestWeight  V = (y, V)) := by
  refine pm_MT.of (by decide) ⟨Nat.le_refl _, by decide⟩ (fun av V h => by rw [h.1]; exact (by decide : pm_words [(3, 0)] ≤ 1)) ?_
  rintro X av V0 hC - hR ⟨rfl, hV0⟩
  change pm_J X 0 [(0, (3, 73))] [] 118 V0
  have hT := F_X10_greatestWeight_eq  V0
  refine pm_aload_n hC 0 (by decide) dX10_greatestWeight_0 rfl ?_
  rcases hV0.get2 73 13 (lo := 76) (hi := 77) (by decide) (by decide) rfl with e1 | e1
  · skip
    replace hT := hT.trans (if_pos e1)
    refine pm_getf (v := 76) hC 73 fl_X10_50 rfl rfl (by decide) rfl e1 dX10_greatestWeight_1 ?_
    refine pm_aload_n hC 0 (by decide) dX10_greatestWeight_4 rfl ?_
    refine pm_callV (ci := 10) (as := []) (st := [(3, 76)]) hC 73 fD_X10_mostLikely_73 lm_X10_138 li_X10_mostLikely (by decide) (by decide) rfl rfl rfl (by decide) rfl rfl (Nat.le_of_ble_eq_true rfl) ⟨Nat.le_refl _, Or.inl rfl⟩ dX10_greatestWeight_5 ⟨rfl, hV0⟩ (fun r2 V3 hp4 => ?_)
    obtain ⟨y5, rfl, b6, rfl, hE7⟩ := hp4
    replace hT := hT.trans (pf_call_eq hE7)
    change pm_J X 8 [(0, (3, 73))] [(0, y5), (3, 76)] 118 V0
    obtain ⟨y8, e9⟩ : ∃ y, V0 76 (y5 : Int).toNat = y := ⟨_, rfl⟩
    replace hT := hT.trans (pf_let_eq e9)
    have b10 := hV0.get 76 (y5 : Int).toNat (lo := (-9223372036854775808)) (hi := 9223372036854775807) (by decide) (show _ < 9 by omega) rfl
    rw [e9] at b10
    refine pm_laload (len := 9) (v := y8) hC 76 rfl rfl (by decide) ⟨by omega, by omega⟩ (by decide) e9 dX10_greatestWeight_8 ?_
    exact pm_lret hC hR ⟨y8, rfl, ⟨by omega, by omega⟩, rfl, hT⟩ dX10_greatestWeight_9
  · skip
    replace hT := hT.trans (if_neg (by rw [e1]; decide))
    refine pm_getf (v := 77) hC 73 fl_X10_50 rfl rfl (by decide) rfl e1 dX10_greatestWeight_1 ?_
    refine pm_aload_n hC 0 (by decide) dX10_greatestWeight_4 rfl ?_
    refine pm_callV (ci := 10) (as := []) (st := [(3, 77)]) hC 73 fD_X10_mostLikely_73 lm_X10_138 li_X10_mostLikely (by decide) (by decide) rfl rfl rfl (by decide) rfl rfl (Nat.le_of_ble_eq_true rfl) ⟨Nat.le_refl _, Or.inl rfl⟩ dX10_greatestWeight_5 ⟨rfl, hV0⟩ (fun r11 V12 hp13 => ?_)
    obtain ⟨y14, rfl, b15, rfl, hE16⟩ := hp13
    replace hT := hT.trans (pf_call_eq hE16)
    change pm_J X 8 [(0, (3, 73))] [(0, y14), (3, 77)] 118 V0
    obtain ⟨y17, e18⟩ : ∃ y, V0 77 (y14 : Int).toNat = y := ⟨_, rfl⟩
    replace hT := hT.trans (pf_let_eq e18)
    have b19 := hV0.get 77 (y14 : Int).toNat (lo := (-9223372036854775808)) (hi := 9223372036854775807) (by decide) (show _ < 9 by omega) rfl
    rw [e18] at b19
    refine pm_laload (len := 9) (v := y17) hC 77 rfl rfl (by decide) ⟨by omega, by omega⟩ (by decide) e18 dX10_greatestWeight_8 ?_
    exact pm_lret hC hR ⟨y17, rfl, ⟨by omega, by omega⟩, rfl, hT⟩ dX10_greatestWeight_9
set_option maxHeartbeats 4000000 in
set_option maxRecDepth 100000 in
theorem fD_X10_weighSurer_73  : pm_K 3 yX10_weighSurer cX10_weighSurer 5 none (fun av V => av = [(3, 73)] ∧ pm_ok 0 90 V) (fun _ V r V' => r = none ∧ pm_ok 0 90 V' ∧ pm_ff [76, 77] [(73, 14)] V V' ∧ F_X10_weighSurer  V = (0, V')) := by
  refine pm_MT.of (by decide) ⟨Nat.le_refl _, by decide⟩ (fun av V h => by rw [h.1]; exact (by decide : pm_words [(3, 0)] ≤ 5)) ?_
  rintro X av V0 hC - hR ⟨rfl, hV0⟩
  change pm_J X 0 [(0, (3, 73))] [] 118 V0
  have hT := F_X10_weighSurer_eq  V0
  refine pm_aload_n hC 0 (by decide) dX10_weighSurer_0 rfl ?_
  refine pm_callV (ci := 10) (as := []) (st := []) hC 73 fD_X10_weighFace_73 lm_X10_103 li_X10_weighFace (by decide) (by decide) rfl rfl rfl (by decide) rfl rfl (Nat.le_of_ble_eq_true rfl) ⟨Nat.le_refl _, Or.inl rfl⟩ dX10_weighSurer_1 ⟨rfl, hV0⟩ (fun r1 V2 hp3 => ?_)
  obtain ⟨rfl, hV4, hF5, hE6⟩ := hp3
  replace hT := hT.trans (pf_call_eq hE6)
  change pm_J X 4 [(0, (3, 73))] [] 118 V2
  have hF7 := pm_ff.tr (pm_ff.rf (cs := [76, 77]) (fs := [(73, 14)]) (V := V0)) hF5 (by decide) (by decide)
  refine pm_aload_n hC 0 (by decide) dX10_weighSurer_4 rfl ?_
  refine pm_callV (ci := 10) (as := []) (st := []) hC 73 fD_X10_greatestWeight_73 lm_X10_129 li_X10_greatestWeight (by decide) (by decide) rfl rfl rfl (by decide) rfl rfl (Nat.le_of_ble_eq_true rfl) ⟨Nat.le_refl _, Or.inl rfl⟩ dX10_weighSurer_5 ⟨rfl, hV4⟩ (fun r8 V9 hp10 => ?_)
  obtain ⟨y11, rfl, b12, rfl, hE13⟩ := hp10
  replace hT := hT.trans (pf_call_eq hE13)
  change pm_J X 8 [(0, (3, 73))] [(1, y11)] 118 V2
  refine pm_lstore_n (lv' := [(1, (1, y11)), (0, (3, 73))]) hC dX10_weighSurer_8 (by decide) rfl ?_
  refine pm_aload_n hC 1 (by decide) dX10_weighSurer_9 rfl ?_
  obtain ⟨y14, e15⟩ : ∃ y, V2 73 14 = y := ⟨_, rfl⟩
  have b16 := hV4.get 73 14 (lo := (-9223372036854775808)) (hi := 9223372036854775807) (by decide) (by decide) rfl
  rw [e15] at b16
  replace hT := hT.trans (pf_let_eq e15)
  refine pm_getf (v := y14) hC 73 fl_X10_53 rfl rfl (by decide) rfl e15 dX10_weighSurer_10 ?_
  refine pm_lstore_n (lv' := [(3, (1, y14)), (1, (1, y11)), (0, (3, 73))]) hC dX10_weighSurer_13 (by decide) rfl ?_
  refine pm_aload_n hC 2 (by decide) dX10_weighSurer_14 rfl ?_
  refine pm_callV (ci := 10) (as := []) (st := []) hC 73 fD_X10_weighVoice_73 lm_X10_126 li_X10_weighVoice (by decide) (by decide) rfl rfl rfl (by decide) rfl rfl (Nat.le_of_ble_eq_true rfl) ⟨Nat.le_refl _, Or.inl rfl⟩ dX10_weighSurer_15 ⟨rfl, hV4⟩ (fun r17 V18 hp19 => ?_)
  obtain ⟨rfl, hV20, hF21, hE22⟩ := hp19
  replace hT := hT.trans (pf_call_eq hE22)
  change pm_J X 18 [(3, (1, y14)), (1, (1, y11)), (0, (3, 73))] [] 118 V18
  have hF23 := pm_ff.tr hF7 hF21 (by decide) (by decide)
  refine pm_lload_n hC 1 dX10_weighSurer_18 rfl ?_
  refine pm_aload_n hC 2 (by decide) dX10_weighSurer_19 rfl ?_
  obtain ⟨y24, e25⟩ : ∃ y, V18 73 14 = y := ⟨_, rfl⟩
  have b26 := hV20.get 73 14 (lo := (-9223372036854775808)) (hi := 9223372036854775807) (by decide) (by decide) rfl
  rw [e25] at b26
  replace hT := hT.trans (pf_let_eq e25)
  refine pm_getf (v := y24) hC 73 fl_X10_53 rfl rfl (by decide) rfl e25 dX10_weighSurer_20 ?_
  refine pm_lmul hC dX10_weighSurer_23 ?_
  refine pm_wrL hC (fun y27 hw29 b28 => ?_)
  replace hT := hT.trans (pf_let_eq hw29)
  have b28 := And.intro b28.1 b28.2
  refine pm_aload_n hC 2 (by decide) dX10_weighSurer_24 rfl ?_
  refine pm_callV (ci := 10) (as := []) (st := [(1, y27)]) hC 73 fD_X10_greatestWeight_73 lm_X10_129 li_X10_greatestWeight (by decide) (by decide) rfl rfl rfl (by decide) rfl rfl (Nat.le_of_ble_eq_true rfl) ⟨Nat.le_refl _, Or.inl rfl⟩ dX10_weighSurer_25 ⟨rfl, hV20⟩ (fun r30 V31 hp32 => ?_)
  obtain ⟨y33, rfl, b34, rfl, hE35⟩ := hp32
  replace hT := hT.trans (pf_call_eq hE35)
  change pm_J X 28 [(3, (1, y14)), (1, (1, y11)), (0, (3, 73))] [(1, y33), (1, y27)] 118 V18
  refine pm_lload_n hC 0 dX10_weighSurer_28 rfl ?_
  refine pm_lmul hC dX10_weighSurer_29 ?_
  refine pm_wrL hC (fun y36 hw38 b37 => ?_)
  replace hT := hT.trans (pf_let_eq hw38)
  have b37 := And.intro b37.1 b37.2
  refine pm_lcmp hC ⟨by omega, by omega⟩ ⟨by omega, by omega⟩ dX10_weighSurer_30 (fun y39 b40 => ?_)
  replace hT := hT.trans (pf_let_eq (pm_cmp_u b40))
  refine pm_if_le (tgt := 38) hC ⟨by omega, by omega⟩ dX10_weighSurer_31 (by decide) (fun c41 => ?_) (fun c41 => ?_)
  · skip
    replace hT := hT.trans (if_pos c41)
    exact pm_vret hC hR ⟨rfl, hV20, hF23, hT⟩ dX10_weighSurer_38
  · skip
    replace hT := hT.trans (if_neg (Int.not_le.mpr c41))
    refine pm_aload_n hC 2 (by decide) dX10_weighSurer_34 rfl ?_
    refine pm_callV (ci := 10) (as := []) (st := []) hC 73 fD_X10_weighFace_73 lm_X10_103 li_X10_weighFace (by decide) (by decide) rfl rfl rfl (by decide) rfl rfl (Nat.le_of_ble_eq_true rfl) ⟨Nat.le_refl _, Or.inl rfl⟩ dX10_weighSurer_35 ⟨rfl, hV20⟩ (fun r42 V43 hp44 => ?_)
    obtain ⟨rfl, hV45, hF46, hE47⟩ := hp44
    replace hT := hT.trans (pf_call_eq hE47)
    change pm_J X 38 [(3, (1, y14)), (1, (1, y11)), (0, (3, 73))] [] 118 V43
    have hF48 := pm_ff.tr hF23 hF46 (by decide) (by decide)
    exact pm_vret hC hR ⟨rfl, hV45, hF48, hT⟩ dX10_weighSurer_38
set_option maxHeartbeats 4000000 in
set_option maxRecDepth 100000 in
theorem fD_X10_weighOne_73  : pm_K 2 yX10_weighOne cX10_weighOne 2 none (fun av V => av = [(3, 73)] ∧ pm_ok 0 90 V) (fun _ V r V' => r = none ∧ pm_ok 0 90 V' ∧ pm_ff [76, 77] [(73, 14)] V V' ∧ F_X10_weighOne  V = (0, V')) := by
  refine pm_MT.of (by decide) ⟨Nat.le_refl _, by decide⟩ (fun av V h => by rw [h.1]; exact (by decide : pm_words [(3, 0)] ≤ 2)) ?_
  rintro X av V0 hC - hR ⟨rfl, hV0⟩
  change pm_J X 0 [(0, (3, 73))] [] 118 V0
  have hT := F_X10_weighOne_eq  V0
  refine pm_aload_n hC 0 (by decide) dX10_weighOne_0 rfl ?_
  obtain ⟨y1, e2⟩ : ∃ y, V0 73 12 = y := ⟨_, rfl⟩
  have b3 := hV0.get 73 12 (lo := (-9223372036854775808)) (hi := 9223372036854775807) (by decide) (by decide) rfl
  rw [e2] at b3
  replace hT := hT.trans (pf_let_eq e2)
  refine pm_getf (v := y1) hC 73 fl_X10_47 rfl rfl (by decide) rfl e2 dX10_weighOne_1 ?_
  refine pm_lconst (x := 0) hC dX10_weighOne_4 rfl ?_
  refine pm_lcmp hC ⟨by omega, by omega⟩ ⟨by decide, by decide⟩ dX10_weighOne_5 (fun y4 b5 => ?_)
  replace hT := hT.trans (pf_let_eq (pm_cmp_u b5))
  refine pm_if_ne (tgt := 14) hC ⟨by omega, by omega⟩ dX10_weighOne_6 (by decide) (fun c6 => ?_) (fun c6 => ?_)
  · skip
    replace hT := hT.trans (if_pos c6)
    refine pm_iconst (v := 0) hC dX10_weighOne_14 ?_
    refine pm_istore_n (lv' := [(1, (0, 0)), (0, (3, 73))]) hC dX10_weighOne_15 (by decide) rfl ?_
    obtain ⟨B13, hB14, hT⟩ := pf_loop hT
    have L16 : ∀ (N18 : Nat) (x7 : Int) (V9 : pm_M), (0 ≤ x7 ∧ x7 ≤ 9) → pm_ok 0 90 V9 → pm_ff [76, 77] [(73, 14)] V0 V9 → V9 73 12 = y1 → F_X10_weighOne  V0 = pf_val ((0 : Int), V0) B13 (x7, V9) → (Int.toNat (9 - x7)) = N18 → pm_J X 16 [(0, (3, 73)), (1, (0, x7))] [] 118 V9 := by
      intro N18
      induction N18 using Nat.strongRecOn with
      | _ N18 ih19 =>
      intro x7 V9 b8 hV10 hF11 e12 hT hm17
      have hb15 := congrFun hB14 (x7, V9)
      refine pm_iload_n hC 1 dX10_weighOne_16 rfl ?_
      refine pm_aload_n hC 0 (by decide) dX10_weighOne_17 rfl ?_
      rcases hV10.get2 73 0 (lo := 45) (hi := 51) (by decide) (by decide) rfl with e20 | e20
      · skip
        replace hb15 := hb15.trans (if_pos e20)
        refine pm_getf (v := 45) hC 73 fl_X10_59 rfl rfl (by decide) rfl e20 dX10_weighOne_18 ?_
        obtain ⟨y21, e22⟩ : ∃ y, V9 45 0 = y := ⟨_, rfl⟩
        have b23 := hV10.get 45 0 (lo := 0) (hi := 9) (by decide) (by decide) rfl
        rw [e22] at b23
        replace hb15 := hb15.trans (pf_let_eq e22)
        refine pm_getf (v := y21) hC 45 fl_X10_79 rfl rfl (by decide) rfl e22 dX10_weighOne_21 ?_
        refine pm_icmp_ge (tgt := 52) hC ⟨by omega, by omega⟩ ⟨by omega, by omega⟩ dX10_weighOne_24 (by decide) (fun c24 => ?_) (fun c24 => ?_)
        · skip
          replace hb15 := hb15.trans (if_pos c24)
          refine pm_aload_n hC 0 (by decide) dX10_weighOne_52 rfl ?_
          refine pm_aload_n hC 0 (by decide) dX10_weighOne_53 rfl ?_
          refine pm_getf (v := y1) hC 73 fl_X10_47 rfl rfl (by decide) rfl e12 dX10_weighOne_54 ?_
          refine pm_putf hC 73 fl_X10_53 rfl rfl rfl (by decide) rfl trivial dX10_weighOne_57 ?_
          have hT := hT.trans (pf_val_inr hb15)
          exact pm_vret hC hR ⟨rfl, (hV10.put 73 14 (x := y1) (lo := (-9223372036854775808)) (hi := 9223372036854775807) rfl ⟨by omega, by omega⟩), (hF11.upf 73 14 y1 rfl), hT⟩ dX10_weighOne_60
        · skip
          replace hb15 := hb15.trans (if_neg (Int.not_le.mpr c24))
          refine pm_aload_n hC 0 (by decide) dX10_weighOne_27 rfl ?_
          rcases hV10.get2 73 13 (lo := 76) (hi := 77) (by decide) (by decide) rfl with e25 | e25
          · skip
            replace hb15 := hb15.trans (if_pos e25)
            refine pm_getf (v := 76) hC 73 fl_X10_50 rfl rfl (by decide) rfl e25 dX10_weighOne_28 ?_
            refine pm_iload_n hC 1 dX10_weighOne_31 rfl ?_
            refine pm_aload_n hC 0 (by decide) dX10_weighOne_32 rfl ?_
            have e26 : V9 73 8 = 74 := hV10.one 73 8 (by decide) (by decide) rfl
            refine pm_getf (v := 74) hC 73 fl_X10_34 rfl rfl (by decide) rfl e26 dX10_weighOne_33 ?_
            refine pm_iload_n hC 1 dX10_weighOne_36 rfl ?_
            obtain ⟨y27, e28⟩ : ∃ y, V9 74 (x7 : Int).toNat = y := ⟨_, rfl⟩
            replace hb15 := hb15.trans (pf_let_eq e28)
            have b29 := hV10.get 74 (x7 : Int).toNat (lo := (-9223372036854775808)) (hi := 9223372036854775807) (by decide) (show _ < 9 by omega) rfl
            rw [e28] at b29
            refine pm_laload (len := 9) (v := y27) hC 74 rfl rfl (by decide) ⟨by omega, by omega⟩ (by decide) e28 dX10_weighOne_37 ?_
            refine pm_aload_n hC 0 (by decide) dX10_weighOne_38 rfl ?_
            have e30 : V9 73 9 = 75 := hV10.one 73 9 (by decide) (by decide) rfl
            refine pm_getf (v := 75) hC 73 fl_X10_38 rfl rfl (by decide) rfl e30 dX10_weighOne_39 ?_
            refine pm_iload_n hC 1 dX10_weighOne_42 rfl ?_
            obtain ⟨y31, e32⟩ : ∃ y, V9 75 (x7 : Int).toNat = y := ⟨_, rfl⟩
            replace hb15 := hb15.trans (pf_let_eq e32)
            have b33 := hV10.get 75 (x7 : Int).toNat (lo := (-9223372036854775808)) (hi := 9223372036854775807) (by decide) (show _ < 9 by omega) rfl
            rw [e32] at b33
            refine pm_laload (len := 9) (v := y31) hC 75 rfl rfl (by decide) ⟨by omega, by omega⟩ (by decide) e32 dX10_weighOne_43 ?_
            refine pm_lmul hC dX10_weighOne_44 ?_
            refine pm_wrL hC (fun y34 hw36 b35 => ?_)
            replace hb15 := hb15.trans (pf_let_eq hw36)
            have b35 := And.intro b35.1 b35.2
            refine pm_lastore (len := 9) hC 76 rfl rfl (by decide) ⟨by omega, by omega⟩ (by decide) dX10_weighOne_45 ?_
            obtain ⟨x37, ei38⟩ : ∃ y : Int, x7 + 1 = y := ⟨_, rfl⟩
            replace hb15 := hb15.trans (pf_let_eq ei38)
            refine pm_iinc (y := x37) (lv' := [(1, (0, x37)), (0, (3, 73))]) hC 1 dX10_weighOne_46 (by decide) rfl ei38 rfl ?_
            refine pm_goto (tgt := 16) hC dX10_weighOne_49 (by decide) ?_
            refine pm_lvsub [1, 0] (lv' := [(0, (3, 73)), (1, (0, x37))]) rfl ?_
            exact ih19 _ (by omega) x37 (pm_up V9 76 (x7 : Int).toNat y34) ⟨by omega, by omega⟩ (hV10.put 76 (x7 : Int).toNat (x := y34) (lo := (-9223372036854775808)) (hi := 9223372036854775807) rfl ⟨by omega, by omega⟩) (hF11.upa 76 (x7 : Int).toNat y34 rfl) e12 (hT.trans (pf_val_inl hb15)) rfl
          · skip
            replace hb15 := hb15.trans (if_neg (by rw [e25]; decide))
            refine pm_getf (v := 77) hC 73 fl_X10_50 rfl rfl (by decide) rfl e25 dX10_weighOne_28 ?_
            refine pm_iload_n hC 1 dX10_weighOne_31 rfl ?_
            refine pm_aload_n hC 0 (by decide) dX10_weighOne_32 rfl ?_
            have e39 : V9 73 8 = 74 := hV10.one 73 8 (by decide) (by decide) rfl
            refine pm_getf (v := 74) hC 73 fl_X10_34 rfl rfl (by decide) rfl e39 dX10_weighOne_33 ?_
            refine pm_iload_n hC 1 dX10_weighOne_36 rfl ?_
            obtain ⟨y40, e41⟩ : ∃ y, V9 74 (x7 : Int).toNat = y := ⟨_, rfl⟩
            replace hb15 := hb15.trans (pf_let_eq e41)
            have b42 := hV10.get 74 (x7 : Int).toNat (lo := (-9223372036854775808)) (hi := 9223372036854775807) (by decide) (show _ < 9 by omega) rfl
            rw [e41] at b42
            refine pm_laload (len := 9) (v := y40) hC 74 rfl rfl (by decide) ⟨by omega, by omega⟩ (by decide) e41 dX10_weighOne_37 ?_
            refine pm_aload_n hC 0 (by decide) dX10_weighOne_38 rfl ?_
            have e43 : V9 73 9 = 75 := hV10.one 73 9 (by decide) (by decide) rfl
            refine pm_getf (v := 75) hC 73 fl_X10_38 rfl rfl (by decide) rfl e43 dX10_weighOne_39 ?_
            refine pm_iload_n hC 1 dX10_weighOne_42 rfl ?_
            obtain ⟨y44, e45⟩ : ∃ y, V9 75 (x7 : Int).toNat = y := ⟨_, rfl⟩
            replace hb15 := hb15.trans (pf_let_eq e45)
            have b46 := hV10.get 75 (x7 : Int).toNat (lo := (-9223372036854775808)) (hi := 9223372036854775807) (by decide) (show _ < 9 by omega) rfl
            rw [e45] at b46
            refine pm_laload (len := 9) (v := y44) hC 75 rfl rfl (by decide) ⟨by omega, by omega⟩ (by decide) e45 dX10_weighOne_43 ?_
            refine pm_lmul hC dX10_weighOne_44 ?_
            refine pm_wrL hC (fun y47 hw49 b48 => ?_)
            replace hb15 := hb15.trans (pf_let_eq hw49)
            have b48 := And.intro b48.1 b48.2
            refine pm_lastore (len := 9) hC 77 rfl rfl (by decide) ⟨by omega, by omega⟩ (by decide) dX10_weighOne_45 ?_
            obtain ⟨x50, ei51⟩ : ∃ y : Int, x7 + 1 = y := ⟨_, rfl⟩
            replace hb15 := hb15.trans (pf_let_eq ei51)
            refine pm_iinc (y := x50) (lv' := [(1, (0, x50)), (0, (3, 73))]) hC 1 dX10_weighOne_46 (by decide) rfl ei51 rfl ?_
            refine pm_goto (tgt := 16) hC dX10_weighOne_49 (by decide) ?_
            refine pm_lvsub [1, 0] (lv' := [(0, (3, 73)), (1, (0, x50))]) rfl ?_
            exact ih19 _ (by omega) x50 (pm_up V9 77 (x7 : Int).toNat y47) ⟨by omega, by omega⟩ (hV10.put 77 (x7 : Int).toNat (x := y47) (lo := (-9223372036854775808)) (hi := 9223372036854775807) rfl ⟨by omega, by omega⟩) (hF11.upa 77 (x7 : Int).toNat y47 rfl) e12 (hT.trans (pf_val_inl hb15)) rfl
      · skip
        replace hb15 := hb15.trans (if_neg (by rw [e20]; decide))
        refine pm_getf (v := 51) hC 73 fl_X10_59 rfl rfl (by decide) rfl e20 dX10_weighOne_18 ?_
        obtain ⟨y52, e53⟩ : ∃ y, V9 51 0 = y := ⟨_, rfl⟩
        have b54 := hV10.get 51 0 (lo := 0) (hi := 9) (by decide) (by decide) rfl
        rw [e53] at b54
        replace hb15 := hb15.trans (pf_let_eq e53)
        refine pm_getf (v := y52) hC 51 fl_X10_79 rfl rfl (by decide) rfl e53 dX10_weighOne_21 ?_
        refine pm_icmp_ge (tgt := 52) hC ⟨by omega, by omega⟩ ⟨by omega, by omega⟩ dX10_weighOne_24 (by decide) (fun c55 => ?_) (fun c55 => ?_)
        · skip
          replace hb15 := hb15.trans (if_pos c55)
          refine pm_aload_n hC 0 (by decide) dX10_weighOne_52 rfl ?_
          refine pm_aload_n hC 0 (by decide) dX10_weighOne_53 rfl ?_
          refine pm_getf (v := y1) hC 73 fl_X10_47 rfl rfl (by decide) rfl e12 dX10_weighOne_54 ?_
          refine pm_putf hC 73 fl_X10_53 rfl rfl rfl (by decide) rfl trivial dX10_weighOne_57 ?_
          have hT := hT.trans (pf_val_inr hb15)
          exact pm_vret hC hR ⟨rfl, (hV10.put 73 14 (x := y1) (lo := (-9223372036854775808)) (hi := 9223372036854775807) rfl ⟨by omega, by omega⟩), (hF11.upf 73 14 y1 rfl), hT⟩ dX10_weighOne_60
        · skip
          replace hb15 := hb15.trans (if_neg (Int.not_le.mpr c55))
          refine pm_aload_n hC 0 (by decide) dX10_weighOne_27 rfl ?_
          rcases hV10.get2 73 13 (lo := 76) (hi := 77) (by decide) (by decide) rfl with e56 | e56
          · skip
            replace hb15 := hb15.trans (if_pos e56)
            refine pm_getf (v := 76) hC 73 fl_X10_50 rfl rfl (by decide) rfl e56 dX10_weighOne_28 ?_
            refine pm_iload_n hC 1 dX10_weighOne_31 rfl ?_
            refine pm_aload_n hC 0 (by decide) dX10_weighOne_32 rfl ?_
            have e57 : V9 73 8 = 74 := hV10.one 73 8 (by decide) (by decide) rfl
            refine pm_getf (v := 74) hC 73 fl_X10_34 rfl rfl (by decide) rfl e57 dX10_weighOne_33 ?_
            refine pm_iload_n hC 1 dX10_weighOne_36 rfl ?_
            obtain ⟨y58, e59⟩ : ∃ y, V9 74 (x7 : Int).toNat = y := ⟨_, rfl⟩
            replace hb15 := hb15.trans (pf_let_eq e59)
            have b60 := hV10.get 74 (x7 : Int).toNat (lo := (-9223372036854775808)) (hi := 9223372036854775807) (by decide) (show _ < 9 by omega) rfl
            rw [e59] at b60
            refine pm_laload (len := 9) (v := y58) hC 74 rfl rfl (by decide) ⟨by omega, by omega⟩ (by decide) e59 dX10_weighOne_37 ?_
            refine pm_aload_n hC 0 (by decide) dX10_weighOne_38 rfl ?_
            have e61 : V9 73 9 = 75 := hV10.one 73 9 (by decide) (by decide) rfl
            refine pm_getf (v := 75) hC 73 fl_X10_38 rfl rfl (by decide) rfl e61 dX10_weighOne_39 ?_
            refine pm_iload_n hC 1 dX10_weighOne_42 rfl ?_
            obtain ⟨y62, e63⟩ : ∃ y, V9 75 (x7 : Int).toNat = y := ⟨_, rfl⟩
            replace hb15 := hb15.trans (pf_let_eq e63)
            have b64 := hV10.get 75 (x7 : Int).toNat (lo := (-9223372036854775808)) (hi := 9223372036854775807) (by decide) (show _ < 9 by omega) rfl
            rw [e63] at b64
            refine pm_laload (len := 9) (v := y62) hC 75 rfl rfl (by decide) ⟨by omega, by omega⟩ (by decide) e63 dX10_weighOne_43 ?_
            refine pm_lmul hC dX10_weighOne_44 ?_
            refine pm_wrL hC (fun y65 hw67 b66 => ?_)
            replace hb15 := hb15.trans (pf_let_eq hw67)
            have b66 := And.intro b66.1 b66.2
            refine pm_lastore (len := 9) hC 76 rfl rfl (by decide) ⟨by omega, by omega⟩ (by decide) dX10_weighOne_45 ?_
            obtain ⟨x68, ei69⟩ : ∃ y : Int, x7 + 1 = y := ⟨_, rfl⟩
            replace hb15 := hb15.trans (pf_let_eq ei69)
            refine pm_iinc (y := x68) (lv' := [(1, (0, x68)), (0, (3, 73))]) hC 1 dX10_weighOne_46 (by decide) rfl ei69 rfl ?_
            refine pm_goto (tgt := 16) hC dX10_weighOne_49 (by decide) ?_
            refine pm_lvsub [1, 0] (lv' := [(0, (3, 73)), (1, (0, x68))]) rfl ?_
            exact ih19 _ (by omega) x68 (pm_up V9 76 (x7 : Int).toNat y65) ⟨by omega, by omega⟩ (hV10.put 76 (x7 : Int).toNat (x := y65) (lo := (-9223372036854775808)) (hi := 9223372036854775807) rfl ⟨by omega, by omega⟩) (hF11.upa 76 (x7 : Int).toNat y65 rfl) e12 (hT.trans (pf_val_inl hb15)) rfl
          · skip
            replace hb15 := hb15.trans (if_neg (by rw [e56]; decide))
            refine pm_getf (v := 77) hC 73 fl_X10_50 rfl rfl (by decide) rfl e56 dX10_weighOne_28 ?_
            refine pm_iload_n hC 1 dX10_weighOne_31 rfl ?_
            refine pm_aload_n hC 0 (by decide) dX10_weighOne_32 rfl ?_
            have e70 : V9 73 8 = 74 := hV10.one 73 8 (by decide) (by decide) rfl
            refine pm_getf (v := 74) hC 73 fl_X10_34 rfl rfl (by decide) rfl e70 dX10_weighOne_33 ?_
            refine pm_iload_n hC 1 dX10_weighOne_36 rfl ?_
            obtain ⟨y71, e72⟩ : ∃ y, V9 74 (x7 : Int).toNat = y := ⟨_, rfl⟩
            replace hb15 := hb15.trans (pf_let_eq e72)
            have b73 := hV10.get 74 (x7 : Int).toNat (lo := (-9223372036854775808)) (hi := 9223372036854775807) (by decide) (show _ < 9 by omega) rfl
            rw [e72] at b73
            refine pm_laload (len := 9) (v := y71) hC 74 rfl rfl (by decide) ⟨by omega, by omega⟩ (by decide) e72 dX10_weighOne_37 ?_
            refine pm_aload_n hC 0 (by decide) dX10_weighOne_38 rfl ?_
            have e74 : V9 73 9 = 75 := hV10.one 73 9 (by decide) (by decide) rfl
            refine pm_getf (v := 75) hC 73 fl_X10_38 rfl rfl (by decide) rfl e74 dX10_weighOne_39 ?_
            refine pm_iload_n hC 1 dX10_weighOne_42 rfl ?_
            obtain ⟨y75, e76⟩ : ∃ y, V9 75 (x7 : Int).toNat = y := ⟨_, rfl⟩
            replace hb15 := hb15.trans (pf_let_eq e76)
            have b77 := hV10.get 75 (x7 : Int).toNat (lo := (-9223372036854775808)) (hi := 9223372036854775807) (by decide) (show _ < 9 by omega) rfl
            rw [e76] at b77
            refine pm_laload (len := 9) (v := y75) hC 75 rfl rfl (by decide) ⟨by omega, by omega⟩ (by decide) e76 dX10_weighOne_43 ?_
            refine pm_lmul hC dX10_weighOne_44 ?_
            refine pm_wrL hC (fun y78 hw80 b79 => ?_)
            replace hb15 := hb15.trans (pf_let_eq hw80)
            have b79 := And.intro b79.1 b79.2
            refine pm_lastore (len := 9) hC 77 rfl rfl (by decide) ⟨by omega, by omega⟩ (by decide) dX10_weighOne_45 ?_
            obtain ⟨x81, ei82⟩ : ∃ y : Int, x7 + 1 = y := ⟨_, rfl⟩
            replace hb15 := hb15.trans (pf_let_eq ei82)
            refine pm_iinc (y := x81) (lv' := [(1, (0, x81)), (0, (3, 73))]) hC 1 dX10_weighOne_46 (by decide) rfl ei82 rfl ?_
            refine pm_goto (tgt := 16) hC dX10_weighOne_49 (by decide) ?_
            refine pm_lvsub [1, 0] (lv' := [(0, (3, 73)), (1, (0, x81))]) rfl ?_
            exact ih19 _ (by omega) x81 (pm_up V9 77 (x7 : Int).toNat y78) ⟨by omega, by omega⟩ (hV10.put 77 (x7 : Int).toNat (x := y78) (lo := (-9223372036854775808)) (hi := 9223372036854775807) rfl ⟨by omega, by omega⟩) (hF11.upa 77 (x7 : Int).toNat y78 rfl) e12 (hT.trans (pf_val_inl hb15)) rfl
    refine pm_lvsub [1, 0] (lv' := [(0, (3, 73)), (1, (0, 0))]) rfl ?_
    exact L16 _ 0 V0 ⟨by decide, by decide⟩ hV0 (pm_ff.rf (cs := [76, 77]) (fs := [(73, 14)]) (V := V0)) e2 hT rfl
  · skip
    replace hT := hT.trans (if_neg (fun q => q c6))
    refine pm_aload_n hC 0 (by decide) dX10_weighOne_9 rfl ?_
    refine pm_callV (ci := 10) (as := []) (st := []) hC 73 fD_X10_weighVoice_73 lm_X10_126 li_X10_weighVoice (by decide) (by decide) rfl rfl rfl (by decide) rfl rfl (Nat.le_of_ble_eq_true rfl) ⟨Nat.le_refl _, Or.inl rfl⟩ dX10_weighOne_10 ⟨rfl, hV0⟩ (fun r83 V84 hp85 => ?_)
    obtain ⟨rfl, hV86, hF87, hE88⟩ := hp85
    replace hT := hT.trans (pf_call_eq hE88)
    change pm_J X 13 [(0, (3, 73))] [] 118 V84
    have hF89 := pm_ff.tr (pm_ff.rf (cs := [76, 77]) (fs := [(73, 14)]) (V := V0)) hF87 (by decide) (by decide)
    have e90 : V84 73 12 = y1 := by rw [hF87 73 12 (by decide) (by decide)]; exact e2
    exact pm_vret hC hR ⟨rfl, hV86, hF89, hT⟩ dX10_weighOne_13
set_option maxHeartbeats 4000000 in
set_option maxRecDepth 100000 in
theorem fD_X10_weighOdds_73  : pm_K 2 yX10_weighOdds cX10_weighOdds 6 none (fun av V => av = [(3, 73)] ∧ pm_ok 0 90 V) (fun _ V r V' => r = none ∧ pm_ok 0 90 V' ∧ pm_ff [76, 77] [(73, 14)] V V' ∧ F_X10_weighOdds  V = (0, V')) := by
  refine pm_MT.of (by decide) ⟨Nat.le_refl _, by decide⟩ (fun av V h => by rw [h.1]; exact (by decide : pm_words [(3, 0)] ≤ 6)) ?_
  rintro X av V0 hC - hR ⟨rfl, hV0⟩
  change pm_J X 0 [(0, (3, 73))] [] 118 V0
  have hT := F_X10_weighOdds_eq  V0
  refine pm_aload_n hC 0 (by decide) dX10_weighOdds_0 rfl ?_
  obtain ⟨y1, e2⟩ : ∃ y, V0 73 7 = y := ⟨_, rfl⟩
  have b3 := hV0.get 73 7 (lo := (-9223372036854775808)) (hi := 9223372036854775807) (by decide) (by decide) rfl
  rw [e2] at b3
  replace hT := hT.trans (pf_let_eq e2)
  refine pm_getf (v := y1) hC 73 fl_X10_30 rfl rfl (by decide) rfl e2 dX10_weighOdds_1 ?_
  refine pm_aload_n hC 0 (by decide) dX10_weighOdds_4 rfl ?_
  rcases hV0.get2 73 0 (lo := 45) (hi := 51) (by decide) (by decide) rfl with e4 | e4
  · skip
    replace hT := hT.trans (if_pos e4)
    refine pm_getf (v := 45) hC 73 fl_X10_59 rfl rfl (by decide) rfl e4 dX10_weighOdds_5 ?_
    obtain ⟨y5, e6⟩ : ∃ y, V0 45 0 = y := ⟨_, rfl⟩
    have b7 := hV0.get 45 0 (lo := 0) (hi := 9) (by decide) (by decide) rfl
    rw [e6] at b7
    replace hT := hT.trans (pf_let_eq e6)
    refine pm_getf (v := y5) hC 45 fl_X10_79 rfl rfl (by decide) rfl e6 dX10_weighOdds_8 ?_
    refine pm_i2l hC ⟨by omega, by omega⟩ dX10_weighOdds_11 ?_
    refine pm_lmul hC dX10_weighOdds_12 ?_
    refine pm_wrL hC (fun y8 hw10 b9 => ?_)
    replace hT := hT.trans (pf_let_eq hw10)
    have b9 := And.intro b9.1 b9.2
    refine pm_lstore_n (lv' := [(1, (1, y8)), (0, (3, 73))]) hC dX10_weighOdds_13 (by decide) rfl ?_
    refine pm_ldc2 (v := 16) hC 4057 dX10_weighOdds_14 (by decide +kernel) ?_
    refine pm_aload_n hC 1 (by decide) dX10_weighOdds_17 rfl ?_
    refine pm_getf (v := y1) hC 73 fl_X10_30 rfl rfl (by decide) rfl e2 dX10_weighOdds_18 ?_
    refine pm_lsub hC dX10_weighOdds_21 ?_
    refine pm_wrL hC (fun y11 hw13 b12 => ?_)
    replace hT := hT.trans (pf_let_eq hw13)
    have b12 := And.intro b12.1 b12.2
    refine pm_aload_n hC 1 (by decide) dX10_weighOdds_22 rfl ?_
    obtain ⟨y14, e15⟩ : ∃ y, V0 73 11 = y := ⟨_, rfl⟩
    have b16 := hV0.get 73 11 (lo := (-9223372036854775808)) (hi := 9223372036854775807) (by decide) (by decide) rfl
    rw [e15] at b16
    replace hT := hT.trans (pf_let_eq e15)
    refine pm_getf (v := y14) hC 73 fl_X10_44 rfl rfl (by decide) rfl e15 dX10_weighOdds_23 ?_
    refine pm_lmul hC dX10_weighOdds_26 ?_
    refine pm_wrL hC (fun y17 hw19 b18 => ?_)
    replace hT := hT.trans (pf_let_eq hw19)
    have b18 := And.intro b18.1 b18.2
    refine pm_lstore_n (lv' := [(3, (1, y17)), (1, (1, y8)), (0, (3, 73))]) hC dX10_weighOdds_27 (by decide) rfl ?_
    refine pm_aload_n hC 2 (by decide) dX10_weighOdds_28 rfl ?_
    refine pm_lload_n hC 1 dX10_weighOdds_29 rfl ?_
    refine pm_aload_n hC 2 (by decide) dX10_weighOdds_30 rfl ?_
    obtain ⟨y20, e21⟩ : ∃ y, V0 73 12 = y := ⟨_, rfl⟩
    have b22 := hV0.get 73 12 (lo := (-9223372036854775808)) (hi := 9223372036854775807) (by decide) (by decide) rfl
    rw [e21] at b22
    replace hT := hT.trans (pf_let_eq e21)
    refine pm_getf (v := y20) hC 73 fl_X10_47 rfl rfl (by decide) rfl e21 dX10_weighOdds_31 ?_
    refine pm_lmul hC dX10_weighOdds_34 ?_
    refine pm_wrL hC (fun y23 hw25 b24 => ?_)
    replace hT := hT.trans (pf_let_eq hw25)
    have b24 := And.intro b24.1 b24.2
    refine pm_lload_n hC 0 dX10_weighOdds_35 rfl ?_
    refine pm_aload_n hC 2 (by decide) dX10_weighOdds_36 rfl ?_
    obtain ⟨y26, e27⟩ : ∃ y, V0 73 10 = y := ⟨_, rfl⟩
    have b28 := hV0.get 73 10 (lo := (-9223372036854775808)) (hi := 9223372036854775807) (by decide) (by decide) rfl
    rw [e27] at b28
    replace hT := hT.trans (pf_let_eq e27)
    refine pm_getf (v := y26) hC 73 fl_X10_41 rfl rfl (by decide) rfl e27 dX10_weighOdds_37 ?_
    refine pm_lmul hC dX10_weighOdds_40 ?_
    refine pm_wrL hC (fun y29 hw31 b30 => ?_)
    replace hT := hT.trans (pf_let_eq hw31)
    have b30 := And.intro b30.1 b30.2
    refine pm_ladd hC dX10_weighOdds_41 ?_
    refine pm_wrL hC (fun y32 hw34 b33 => ?_)
    replace hT := hT.trans (pf_let_eq hw34)
    have b33 := And.intro b33.1 b33.2
    refine pm_putf hC 73 fl_X10_53 rfl rfl rfl (by decide) rfl trivial dX10_weighOdds_42 ?_
    refine pm_aload_n hC 2 (by decide) dX10_weighOdds_45 rfl ?_
    refine pm_getf (v := y32) hC 73 fl_X10_53 rfl rfl (by decide) rfl rfl dX10_weighOdds_46 ?_
    refine pm_lconst (x := 0) hC dX10_weighOdds_49 rfl ?_
    refine pm_lcmp hC ⟨by omega, by omega⟩ ⟨by decide, by decide⟩ dX10_weighOdds_50 (fun y35 b36 => ?_)
    replace hT := hT.trans (pf_let_eq (pm_cmp_u b36))
    refine pm_if_ne (tgt := 59) hC ⟨by omega, by omega⟩ dX10_weighOdds_51 (by decide) (fun c37 => ?_) (fun c37 => ?_)
    · skip
      replace hT := hT.trans (if_pos c37)
      refine pm_iconst (v := 0) hC dX10_weighOdds_59 ?_
      refine pm_istore (lv' := [(5, (0, 0)), (3, (1, y17)), (1, (1, y8)), (0, (3, 73))]) hC dX10_weighOdds_60 (by decide) rfl ?_
      have hV40 := (hV0.put 73 14 (x := y32) (lo := (-9223372036854775808)) (hi := 9223372036854775807) rfl ⟨by omega, by omega⟩)
      have hF41 := ((pm_ff.rf (cs := [76, 77]) (fs := [(73, 14)]) (V := V0)).upf 73 14 y32 rfl)
      obtain ⟨V38, hv39⟩ : ∃ V, V = (pm_up V0 73 14 y32) := ⟨_, rfl⟩
      rw [← hv39] at hV40 hF41
      rw [← hv39]
      replace hT := hT.trans (pf_let_eq hv39.symm)
      have e42 : V38 73 7 = y1 := by rw [hv39]; exact e2
      have e43 : V38 73 0 = 45 := by rw [hv39]; exact e4
      have e44 : V38 45 0 = y5 := by rw [hv39]; exact e6
      have e45 : V38 73 11 = y14 := by rw [hv39]; exact e15
      have e46 : V38 73 12 = y20 := by rw [hv39]; exact e21
      have e47 : V38 73 10 = y26 := by rw [hv39]; exact e27
      have e48 : V38 73 14 = y32 := by rw [hv39]; rfl
      obtain ⟨B61, hB62, hT⟩ := pf_loop hT
      have L64 : ∀ (N66 : Nat) (x49 : Int) (V51 : pm_M), (0 ≤ x49 ∧ x49 ≤ 9) → pm_ok 0 90 V51 → pm_ff [76, 77] [(73, 14)] V0 V51 → V51 73 7 = y1 → V51 73 0 = 45 → V51 45 0 = y5 → V51 73 11 = y14 → V51 73 12 = y20 → V51 73 10 = y26 → V51 73 14 = y32 → F_X10_weighOdds  V0 = pf_val ((0 : Int), V0) B61 (x49, V51) → (Int.toNat (9 - x49)) = N66 → pm_J X 62 [(0, (3, 73)), (1, (1, y8)), (3, (1, y17)), (5, (0, x49))] [] 118 V51 := by
        intro N66
        induction N66 using Nat.strongRecOn with
        | _ N66 ih67 =>
        intro x49 V51 b50 hV52 hF53 e54 e55 e56 e57 e58 e59 e60 hT hm65
        have hb63 := congrFun hB62 (x49, V51)
        refine pm_iload hC 3 dX10_weighOdds_62 rfl ?_
        refine pm_aload_n hC 0 (by decide) dX10_weighOdds_64 rfl ?_
        refine pm_getf (v := 45) hC 73 fl_X10_59 rfl rfl (by decide) rfl e55 dX10_weighOdds_65 ?_
        refine pm_getf (v := y5) hC 45 fl_X10_79 rfl rfl (by decide) rfl e56 dX10_weighOdds_68 ?_
        refine pm_icmp_ge (tgt := 106) hC ⟨by omega, by omega⟩ ⟨by omega, by omega⟩ dX10_weighOdds_71 (by decide) (fun c68 => ?_) (fun c68 => ?_)
        · skip
          replace hb63 := hb63.trans (if_pos c68)
          have hT := hT.trans (pf_val_inr hb63)
          exact pm_vret hC hR ⟨rfl, hV52, hF53, hT⟩ dX10_weighOdds_106
        · skip
          replace hb63 := hb63.trans (if_neg (Int.not_le.mpr c68))
          refine pm_aload_n hC 0 (by decide) dX10_weighOdds_74 rfl ?_
          rcases hV52.get2 73 13 (lo := 76) (hi := 77) (by decide) (by decide) rfl with e69 | e69
          · skip
            replace hb63 := hb63.trans (if_pos e69)
            refine pm_getf (v := 76) hC 73 fl_X10_50 rfl rfl (by decide) rfl e69 dX10_weighOdds_75 ?_
            refine pm_iload hC 3 dX10_weighOdds_78 rfl ?_
            refine pm_aload_n hC 0 (by decide) dX10_weighOdds_80 rfl ?_
            have e70 : V51 73 8 = 74 := hV52.one 73 8 (by decide) (by decide) rfl
            refine pm_getf (v := 74) hC 73 fl_X10_34 rfl rfl (by decide) rfl e70 dX10_weighOdds_81 ?_
            refine pm_iload hC 3 dX10_weighOdds_84 rfl ?_
            obtain ⟨y71, e72⟩ : ∃ y, V51 74 (x49 : Int).toNat = y := ⟨_, rfl⟩
            replace hb63 := hb63.trans (pf_let_eq e72)
            have b73 := hV52.get 74 (x49 : Int).toNat (lo := (-9223372036854775808)) (hi := 9223372036854775807) (by decide) (show _ < 9 by omega) rfl
            rw [e72] at b73
            refine pm_laload (len := 9) (v := y71) hC 74 rfl rfl (by decide) ⟨by omega, by omega⟩ (by decide) e72 dX10_weighOdds_86 ?_
            refine pm_lload_n hC 1 dX10_weighOdds_87 rfl ?_
            refine pm_aload_n hC 0 (by decide) dX10_weighOdds_88 rfl ?_
            have e74 : V51 73 9 = 75 := hV52.one 73 9 (by decide) (by decide) rfl
            refine pm_getf (v := 75) hC 73 fl_X10_38 rfl rfl (by decide) rfl e74 dX10_weighOdds_89 ?_
            refine pm_iload hC 3 dX10_weighOdds_92 rfl ?_
            obtain ⟨y75, e76⟩ : ∃ y, V51 75 (x49 : Int).toNat = y := ⟨_, rfl⟩
            replace hb63 := hb63.trans (pf_let_eq e76)
            have b77 := hV52.get 75 (x49 : Int).toNat (lo := (-9223372036854775808)) (hi := 9223372036854775807) (by decide) (show _ < 9 by omega) rfl
            rw [e76] at b77
            refine pm_laload (len := 9) (v := y75) hC 75 rfl rfl (by decide) ⟨by omega, by omega⟩ (by decide) e76 dX10_weighOdds_94 ?_
            refine pm_lmul hC dX10_weighOdds_95 ?_
            refine pm_wrL hC (fun y78 hw80 b79 => ?_)
            replace hb63 := hb63.trans (pf_let_eq hw80)
            have b79 := And.intro b79.1 b79.2
            refine pm_lload_n hC 2 dX10_weighOdds_96 rfl ?_
            refine pm_ladd hC dX10_weighOdds_97 ?_
            refine pm_wrL hC (fun y81 hw83 b82 => ?_)
            replace hb63 := hb63.trans (pf_let_eq hw83)
            have b82 := And.intro b82.1 b82.2
            refine pm_lmul hC dX10_weighOdds_98 ?_
            refine pm_wrL hC (fun y84 hw86 b85 => ?_)
            replace hb63 := hb63.trans (pf_let_eq hw86)
            have b85 := And.intro b85.1 b85.2
            refine pm_lastore (len := 9) hC 76 rfl rfl (by decide) ⟨by omega, by omega⟩ (by decide) dX10_weighOdds_99 ?_
            obtain ⟨x87, ei88⟩ : ∃ y : Int, x49 + 1 = y := ⟨_, rfl⟩
            replace hb63 := hb63.trans (pf_let_eq ei88)
            refine pm_iinc (y := x87) (lv' := [(5, (0, x87)), (0, (3, 73)), (1, (1, y8)), (3, (1, y17))]) hC 3 dX10_weighOdds_100 (by decide) rfl ei88 rfl ?_
            refine pm_goto (tgt := 62) hC dX10_weighOdds_103 (by decide) ?_
            refine pm_lvsub [1, 2, 3, 0] (lv' := [(0, (3, 73)), (1, (1, y8)), (3, (1, y17)), (5, (0, x87))]) rfl ?_
            exact ih67 _ (by omega) x87 (pm_up V51 76 (x49 : Int).toNat y84) ⟨by omega, by omega⟩ (hV52.put 76 (x49 : Int).toNat (x := y84) (lo := (-9223372036854775808)) (hi := 9223372036854775807) rfl ⟨by omega, by omega⟩) (hF53.upa 76 (x49 : Int).toNat y84 rfl) e54 e55 e56 e57 e58 e59 e60 (hT.trans (pf_val_inl hb63)) rfl
          · skip
            replace hb63 := hb63.trans (if_neg (by rw [e69]; decide))
            refine pm_getf (v := 77) hC 73 fl_X10_50 rfl rfl (by decide) rfl e69 dX10_weighOdds_75 ?_
            refine pm_iload hC 3 dX10_weighOdds_78 rfl ?_
            refine pm_aload_n hC 0 (by decide) dX10_weighOdds_80 rfl ?_
            have e89 : V51 73 8 = 74 := hV52.one 73 8 (by decide) (by decide) rfl
            refine pm_getf (v := 74) hC 73 fl_X10_34 rfl rfl (by decide) rfl e89 dX10_weighOdds_81 ?_
            refine pm_iload hC 3 dX10_weighOdds_84 rfl ?_
            obtain ⟨y90, e91⟩ : ∃ y, V51 74 (x49 : Int).toNat = y := ⟨_, rfl⟩
            replace hb63 := hb63.trans (pf_let_eq e91)
            have b92 := hV52.get 74 (x49 : Int).toNat (lo := (-9223372036854775808)) (hi := 9223372036854775807) (by decide) (show _ < 9 by omega) rfl
            rw [e91] at b92
            refine pm_laload (len := 9) (v := y90) hC 74 rfl rfl (by decide) ⟨by omega, by omega⟩ (by decide) e91 dX10_weighOdds_86 ?_
            refine pm_lload_n hC 1 dX10_weighOdds_87 rfl ?_
            refine pm_aload_n hC 0 (by decide) dX10_weighOdds_88 rfl ?_
            have e93 : V51 73 9 = 75 := hV52.one 73 9 (by decide) (by decide) rfl
            refine pm_getf (v := 75) hC 73 fl_X10_38 rfl rfl (by decide) rfl e93 dX10_weighOdds_89 ?_
            refine pm_iload hC 3 dX10_weighOdds_92 rfl ?_
            obtain ⟨y94, e95⟩ : ∃ y, V51 75 (x49 : Int).toNat = y := ⟨_, rfl⟩
            replace hb63 := hb63.trans (pf_let_eq e95)
            have b96 := hV52.get 75 (x49 : Int).toNat (lo := (-9223372036854775808)) (hi := 9223372036854775807) (by decide) (show _ < 9 by omega) rfl
            rw [e95] at b96
            refine pm_laload (len := 9) (v := y94) hC 75 rfl rfl (by decide) ⟨by omega, by omega⟩ (by decide) e95 dX10_weighOdds_94 ?_
            refine pm_lmul hC dX10_weighOdds_95 ?_
            refine pm_wrL hC (fun y97 hw99 b98 => ?_)
            replace hb63 := hb63.trans (pf_let_eq hw99)
            have b98 := And.intro b98.1 b98.2
            refine pm_lload_n hC 2 dX10_weighOdds_96 rfl ?_
            refine pm_ladd hC dX10_weighOdds_97 ?_
            refine pm_wrL hC (fun y100 hw102 b101 => ?_)
            replace hb63 := hb63.trans (pf_let_eq hw102)
            have b101 := And.intro b101.1 b101.2
            refine pm_lmul hC dX10_weighOdds_98 ?_
            refine pm_wrL hC (fun y103 hw105 b104 => ?_)
            replace hb63 := hb63.trans (pf_let_eq hw105)
            have b104 := And.intro b104.1 b104.2
            refine pm_lastore (len := 9) hC 77 rfl rfl (by decide) ⟨by omega, by omega⟩ (by decide) dX10_weighOdds_99 ?_
            obtain ⟨x106, ei107⟩ : ∃ y : Int, x49 + 1 = y := ⟨_, rfl⟩
            replace hb63 := hb63.trans (pf_let_eq ei107)
            refine pm_iinc (y := x106) (lv' := [(5, (0, x106)), (0, (3, 73)), (1, (1, y8)), (3, (1, y17))]) hC 3 dX10_weighOdds_100 (by decide) rfl ei107 rfl ?_
            refine pm_goto (tgt := 62) hC dX10_weighOdds_103 (by decide) ?_
            refine pm_lvsub [1, 2, 3, 0] (lv' := [(0, (3, 73)), (1, (1, y8)), (3, (1, y17)), (5, (0, x106))]) rfl ?_
            exact ih67 _ (by omega) x106 (pm_up V51 77 (x49 : Int).toNat y103) ⟨by omega, by omega⟩ (hV52.put 77 (x49 : Int).toNat (x := y103) (lo := (-9223372036854775808)) (hi := 9223372036854775807) rfl ⟨by omega, by omega⟩) (hF53.upa 77 (x49 : Int).toNat y103 rfl) e54 e55 e56 e57 e58 e59 e60 (hT.trans (pf_val_inl hb63)) rfl
      refine pm_lvsub [3, 2, 1, 0] (lv' := [(0, (3, 73)), (1, (1, y8)), (3, (1, y17)), (5, (0, 0))]) rfl ?_
      exact L64 _ 0 V38 ⟨by decide, by decide⟩ hV40 hF41 e42 e43 e44 e45 e46 e47 e48 hT rfl
    · skip
      replace hT := hT.trans (if_neg (fun q => q c37))
      refine pm_aload_n hC 2 (by decide) dX10_weighOdds_54 rfl ?_
      refine pm_callV (ci := 10) (as := []) (st := []) hC 73 fD_X10_weighVoice_73 lm_X10_126 li_X10_weighVoice (by decide) (by decide) rfl rfl rfl (by decide) rfl rfl (Nat.le_of_ble_eq_true rfl) ⟨Nat.le_refl _, Or.inl rfl⟩ dX10_weighOdds_55 ⟨rfl, (hV0.put 73 14 (x := y32) (lo := (-9223372036854775808)) (hi := 9223372036854775807) rfl ⟨by omega, by omega⟩)⟩ (fun r108 V109 hp110 => ?_)
      obtain ⟨rfl, hV111, hF112, hE113⟩ := hp110
      replace hT := hT.trans (pf_call_eq hE113)
      change pm_J X 58 [(3, (1, y17)), (1, (1, y8)), (0, (3, 73))] [] 118 V109
      have hF114 := pm_ff.tr ((pm_ff.rf (cs := [76, 77]) (fs := [(73, 14)]) (V := V0)).upf 73 14 y32 rfl) hF112 (by decide) (by decide)
      have e115 : V109 73 7 = y1 := by rw [hF112 73 7 (by decide) (by decide)]; exact e2
      have e116 : V109 73 0 = 45 := by rw [hF112 73 0 (by decide) (by decide)]; exact e4
      have e117 : V109 45 0 = y5 := by rw [hF112 45 0 (by decide) (by decide)]; exact e6
      have e118 : V109 73 11 = y14 := by rw [hF112 73 11 (by decide) (by decide)]; exact e15
      have e119 : V109 73 12 = y20 := by rw [hF112 73 12 (by decide) (by decide)]; exact e21
      have e120 : V109 73 10 = y26 := by rw [hF112 73 10 (by decide) (by decide)]; exact e27
      exact pm_vret hC hR ⟨rfl, hV111, hF114, hT⟩ dX10_weighOdds_58
  · skip
    replace hT := hT.trans (if_neg (by rw [e4]; decide))
    refine pm_getf (v := 51) hC 73 fl_X10_59 rfl rfl (by decide) rfl e4 dX10_weighOdds_5 ?_
    obtain ⟨y121, e122⟩ : ∃ y, V0 51 0 = y := ⟨_, rfl⟩
    have b123 := hV0.get 51 0 (lo := 0) (hi := 9) (by decide) (by decide) rfl
    rw [e122] at b123
    replace hT := hT.trans (pf_let_eq e122)
    refine pm_getf (v := y121) hC 51 fl_X10_79 rfl rfl (by decide) rfl e122 dX10_weighOdds_8 ?_
    refine pm_i2l hC ⟨by omega, by omega⟩ dX10_weighOdds_11 ?_
    refine pm_lmul hC dX10_weighOdds_12 ?_
    refine pm_wrL hC (fun y124 hw126 b125 => ?_)
    replace hT := hT.trans (pf_let_eq hw126)
    have b125 := And.intro b125.1 b125.2
    refine pm_lstore_n (lv' := [(1, (1, y124)), (0, (3, 73))]) hC dX10_weighOdds_13 (by decide) rfl ?_
    refine pm_ldc2 (v := 16) hC 4057 dX10_weighOdds_14 (by decide +kernel) ?_
    refine pm_aload_n hC 1 (by decide) dX10_weighOdds_17 rfl ?_
    refine pm_getf (v := y1) hC 73 fl_X10_30 rfl rfl (by decide) rfl e2 dX10_weighOdds_18 ?_
    refine pm_lsub hC dX10_weighOdds_21 ?_
    refine pm_wrL hC (fun y127 hw129 b128 => ?_)
    replace hT := hT.trans (pf_let_eq hw129)
    have b128 := And.intro b128.1 b128.2
    refine pm_aload_n hC 1 (by decide) dX10_weighOdds_22 rfl ?_
    obtain ⟨y130, e131⟩ : ∃ y, V0 73 11 = y := ⟨_, rfl⟩
    have b132 := hV0.get 73 11 (lo := (-9223372036854775808)) (hi := 9223372036854775807) (by decide) (by decide) rfl
    rw [e131] at b132
    replace hT := hT.trans (pf_let_eq e131)
    refine pm_getf (v := y130) hC 73 fl_X10_44 rfl rfl (by decide) rfl e131 dX10_weighOdds_23 ?_
    refine pm_lmul hC dX10_weighOdds_26 ?_
    refine pm_wrL hC (fun y133 hw135 b134 => ?_)
    replace hT := hT.trans (pf_let_eq hw135)
    have b134 := And.intro b134.1 b134.2
    refine pm_lstore_n (lv' := [(3, (1, y133)), (1, (1, y124)), (0, (3, 73))]) hC dX10_weighOdds_27 (by decide) rfl ?_
    refine pm_aload_n hC 2 (by decide) dX10_weighOdds_28 rfl ?_
    refine pm_lload_n hC 1 dX10_weighOdds_29 rfl ?_
    refine pm_aload_n hC 2 (by decide) dX10_weighOdds_30 rfl ?_
    obtain ⟨y136, e137⟩ : ∃ y, V0 73 12 = y := ⟨_, rfl⟩
    have b138 := hV0.get 73 12 (lo := (-9223372036854775808)) (hi := 9223372036854775807) (by decide) (by decide) rfl
    rw [e137] at b138
    replace hT := hT.trans (pf_let_eq e137)
    refine pm_getf (v := y136) hC 73 fl_X10_47 rfl rfl (by decide) rfl e137 dX10_weighOdds_31 ?_
    refine pm_lmul hC dX10_weighOdds_34 ?_
    refine pm_wrL hC (fun y139 hw141 b140 => ?_)
    replace hT := hT.trans (pf_let_eq hw141)
    have b140 := And.intro b140.1 b140.2
    refine pm_lload_n hC 0 dX10_weighOdds_35 rfl ?_
    refine pm_aload_n hC 2 (by decide) dX10_weighOdds_36 rfl ?_
    obtain ⟨y142, e143⟩ : ∃ y, V0 73 10 = y := ⟨_, rfl⟩
    have b144 := hV0.get 73 10 (lo := (-9223372036854775808)) (hi := 9223372036854775807) (by decide) (by decide) rfl
    rw [e143] at b144
    replace hT := hT.trans (pf_let_eq e143)
    refine pm_getf (v := y142) hC 73 fl_X10_41 rfl rfl (by decide) rfl e143 dX10_weighOdds_37 ?_
    refine pm_lmul hC dX10_weighOdds_40 ?_
    refine pm_wrL hC (fun y145 hw147 b146 => ?_)
    replace hT := hT.trans (pf_let_eq hw147)
    have b146 := And.intro b146.1 b146.2
    refine pm_ladd hC dX10_weighOdds_41 ?_
    refine pm_wrL hC (fun y148 hw150 b149 => ?_)
    replace hT := hT.trans (pf_let_eq hw150)
    have b149 := And.intro b149.1 b149.2
    refine pm_putf hC 73 fl_X10_53 rfl rfl rfl (by decide) rfl trivial dX10_weighOdds_42 ?_
    refine pm_aload_n hC 2 (by decide) dX10_weighOdds_45 rfl ?_
    refine pm_getf (v := y148) hC 73 fl_X10_53 rfl rfl (by decide) rfl rfl dX10_weighOdds_46 ?_
    refine pm_lconst (x := 0) hC dX10_weighOdds_49 rfl ?_
    refine pm_lcmp hC ⟨by omega, by omega⟩ ⟨by decide, by decide⟩ dX10_weighOdds_50 (fun y151 b152 => ?_)
    replace hT := hT.trans (pf_let_eq (pm_cmp_u b152))
    refine pm_if_ne (tgt := 59) hC ⟨by omega, by omega⟩ dX10_weighOdds_51 (by decide) (fun c153 => ?_) (fun c153 => ?_)
    · skip
      replace hT := hT.trans (if_pos c153)
      refine pm_iconst (v := 0) hC dX10_weighOdds_59 ?_
      refine pm_istore (lv' := [(5, (0, 0)), (3, (1, y133)), (1, (1, y124)), (0, (3, 73))]) hC dX10_weighOdds_60 (by decide) rfl ?_
      have hV156 := (hV0.put 73 14 (x := y148) (lo := (-9223372036854775808)) (hi := 9223372036854775807) rfl ⟨by omega, by omega⟩)
      have hF157 := ((pm_ff.rf (cs := [76, 77]) (fs := [(73, 14)]) (V := V0)).upf 73 14 y148 rfl)
      obtain ⟨V154, hv155⟩ : ∃ V, V = (pm_up V0 73 14 y148) := ⟨_, rfl⟩
      rw [← hv155] at hV156 hF157
      rw [← hv155]
      replace hT := hT.trans (pf_let_eq hv155.symm)
      have e158 : V154 73 7 = y1 := by rw [hv155]; exact e2
      have e159 : V154 73 0 = 51 := by rw [hv155]; exact e4
      have e160 : V154 51 0 = y121 := by rw [hv155]; exact e122
      have e161 : V154 73 11 = y130 := by rw [hv155]; exact e131
      have e162 : V154 73 12 = y136 := by rw [hv155]; exact e137
      have e163 : V154 73 10 = y142 := by rw [hv155]; exact e143
      have e164 : V154 73 14 = y148 := by rw [hv155]; rfl
      obtain ⟨B177, hB178, hT⟩ := pf_loop hT
      have L180 : ∀ (N182 : Nat) (x165 : Int) (V167 : pm_M), (0 ≤ x165 ∧ x165 ≤ 9) → pm_ok 0 90 V167 → pm_ff [76, 77] [(73, 14)] V0 V167 → V167 73 7 = y1 → V167 73 0 = 51 → V167 51 0 = y121 → V167 73 11 = y130 → V167 73 12 = y136 → V167 73 10 = y142 → V167 73 14 = y148 → F_X10_weighOdds  V0 = pf_val ((0 : Int), V0) B177 (x165, V167) → (Int.toNat (9 - x165)) = N182 → pm_J X 62 [(0, (3, 73)), (1, (1, y124)), (3, (1, y133)), (5, (0, x165))] [] 118 V167 := by
        intro N182
        induction N182 using Nat.strongRecOn with
        | _ N182 ih183 =>
        intro x165 V167 b166 hV168 hF169 e170 e171 e172 e173 e174 e175 e176 hT hm181
        have hb179 := congrFun hB178 (x165, V167)
        refine pm_iload hC 3 dX10_weighOdds_62 rfl ?_
        refine pm_aload_n hC 0 (by decide) dX10_weighOdds_64 rfl ?_
        refine pm_getf (v := 51) hC 73 fl_X10_59 rfl rfl (by decide) rfl e171 dX10_weighOdds_65 ?_
        refine pm_getf (v := y121) hC 51 fl_X10_79 rfl rfl (by decide) rfl e172 dX10_weighOdds_68 ?_
        refine pm_icmp_ge (tgt := 106) hC ⟨by omega, by omega⟩ ⟨by omega, by omega⟩ dX10_weighOdds_71 (by decide) (fun c184 => ?_) (fun c184 => ?_)
        · skip
          replace hb179 := hb179.trans (if_pos c184)
          have hT := hT.trans (pf_val_inr hb179)
          exact pm_vret hC hR ⟨rfl, hV168, hF169, hT⟩ dX10_weighOdds_106
        · skip
          replace hb179 := hb179.trans (if_neg (Int.not_le.mpr c184))
          refine pm_aload_n hC 0 (by decide) dX10_weighOdds_74 rfl ?_
          rcases hV168.get2 73 13 (lo := 76) (hi := 77) (by decide) (by decide) rfl with e185 | e185
          · skip
            replace hb179 := hb179.trans (if_pos e185)
            refine pm_getf (v := 76) hC 73 fl_X10_50 rfl rfl (by decide) rfl e185 dX10_weighOdds_75 ?_
            refine pm_iload hC 3 dX10_weighOdds_78 rfl ?_
            refine pm_aload_n hC 0 (by decide) dX10_weighOdds_80 rfl ?_
            have e186 : V167 73 8 = 74 := hV168.one 73 8 (by decide) (by decide) rfl
            refine pm_getf (v := 74) hC 73 fl_X10_34 rfl rfl (by decide) rfl e186 dX10_weighOdds_81 ?_
            refine pm_iload hC 3 dX10_weighOdds_84 rfl ?_
            obtain ⟨y187, e188⟩ : ∃ y, V167 74 (x165 : Int).toNat = y := ⟨_, rfl⟩
            replace hb179 := hb179.trans (pf_let_eq e188)
            have b189 := hV168.get 74 (x165 : Int).toNat (lo := (-9223372036854775808)) (hi := 9223372036854775807) (by decide) (show _ < 9 by omega) rfl
            rw [e188] at b189
            refine pm_laload (len := 9) (v := y187) hC 74 rfl rfl (by decide) ⟨by omega, by omega⟩ (by decide) e188 dX10_weighOdds_86 ?_
            refine pm_lload_n hC 1 dX10_weighOdds_87 rfl ?_
            refine pm_aload_n hC 0 (by decide) dX10_weighOdds_88 rfl ?_
            have e190 : V167 73 9 = 75 := hV168.one 73 9 (by decide) (by decide) rfl
            refine pm_getf (v := 75) hC 73 fl_X10_38 rfl rfl (by decide) rfl e190 dX10_weighOdds_89 ?_
            refine pm_iload hC 3 dX10_weighOdds_92 rfl ?_
            obtain ⟨y191, e192⟩ : ∃ y, V167 75 (x165 : Int).toNat = y := ⟨_, rfl⟩
            replace hb179 := hb179.trans (pf_let_eq e192)
            have b193 := hV168.get 75 (x165 : Int).toNat (lo := (-9223372036854775808)) (hi := 9223372036854775807) (by decide) (show _ < 9 by omega) rfl
            rw [e192] at b193
            refine pm_laload (len := 9) (v := y191) hC 75 rfl rfl (by decide) ⟨by omega, by omega⟩ (by decide) e192 dX10_weighOdds_94 ?_
            refine pm_lmul hC dX10_weighOdds_95 ?_
            refine pm_wrL hC (fun y194 hw196 b195 => ?_)
            replace hb179 := hb179.trans (pf_let_eq hw196)
            have b195 := And.intro b195.1 b195.2
            refine pm_lload_n hC 2 dX10_weighOdds_96 rfl ?_
            refine pm_ladd hC dX10_weighOdds_97 ?_
            refine pm_wrL hC (fun y197 hw199 b198 => ?_)
            replace hb179 := hb179.trans (pf_let_eq hw199)
            have b198 := And.intro b198.1 b198.2
            refine pm_lmul hC dX10_weighOdds_98 ?_
            refine pm_wrL hC (fun y200 hw202 b201 => ?_)
            replace hb179 := hb179.trans (pf_let_eq hw202)
            have b201 := And.intro b201.1 b201.2
            refine pm_lastore (len := 9) hC 76 rfl rfl (by decide) ⟨by omega, by omega⟩ (by decide) dX10_weighOdds_99 ?_
            obtain ⟨x203, ei204⟩ : ∃ y : Int, x165 + 1 = y := ⟨_, rfl⟩
            replace hb179 := hb179.trans (pf_let_eq ei204)
            refine pm_iinc (y := x203) (lv' := [(5, (0, x203)), (0, (3, 73)), (1, (1, y124)), (3, (1, y133))]) hC 3 dX10_weighOdds_100 (by decide) rfl ei204 rfl ?_
            refine pm_goto (tgt := 62) hC dX10_weighOdds_103 (by decide) ?_
            refine pm_lvsub [1, 2, 3, 0] (lv' := [(0, (3, 73)), (1, (1, y124)), (3, (1, y133)), (5, (0, x203))]) rfl ?_
            exact ih183 _ (by omega) x203 (pm_up V167 76 (x165 : Int).toNat y200) ⟨by omega, by omega⟩ (hV168.put 76 (x165 : Int).toNat (x := y200) (lo := (-9223372036854775808)) (hi := 9223372036854775807) rfl ⟨by omega, by omega⟩) (hF169.upa 76 (x165 : Int).toNat y200 rfl) e170 e171 e172 e173 e174 e175 e176 (hT.trans (pf_val_inl hb179)) rfl
          · skip
            replace hb179 := hb179.trans (if_neg (by rw [e185]; decide))
            refine pm_getf (v := 77) hC 73 fl_X10_50 rfl rfl (by decide) rfl e185 dX10_weighOdds_75 ?_
            refine pm_iload hC 3 dX10_weighOdds_78 rfl ?_
            refine pm_aload_n hC 0 (by decide) dX10_weighOdds_80 rfl ?_
            have e205 : V167 73 8 = 74 := hV168.one 73 8 (by decide) (by decide) rfl
            refine pm_getf (v := 74) hC 73 fl_X10_34 rfl rfl (by decide) rfl e205 dX10_weighOdds_81 ?_
            refine pm_iload hC 3 dX10_weighOdds_84 rfl ?_
            obtain ⟨y206, e207⟩ : ∃ y, V167 74 (x165 : Int).toNat = y := ⟨_, rfl⟩
            replace hb179 := hb179.trans (pf_let_eq e207)
            have b208 := hV168.get 74 (x165 : Int).toNat (lo := (-9223372036854775808)) (hi := 9223372036854775807) (by decide) (show _ < 9 by omega) rfl
            rw [e207] at b208
            refine pm_laload (len := 9) (v := y206) hC 74 rfl rfl (by decide) ⟨by omega, by omega⟩ (by decide) e207 dX10_weighOdds_86 ?_
            refine pm_lload_n hC 1 dX10_weighOdds_87 rfl ?_
            refine pm_aload_n hC 0 (by decide) dX10_weighOdds_88 rfl ?_
            have e209 : V167 73 9 = 75 := hV168.one 73 9 (by decide) (by decide) rfl
            refine pm_getf (v := 75) hC 73 fl_X10_38 rfl rfl (by decide) rfl e209 dX10_weighOdds_89 ?_
            refine pm_iload hC 3 dX10_weighOdds_92 rfl ?_
            obtain ⟨y210, e211⟩ : ∃ y, V167 75 (x165 : Int).toNat = y := ⟨_, rfl⟩
            replace hb179 := hb179.trans (pf_let_eq e211)
            have b212 := hV168.get 75 (x165 : Int).toNat (lo := (-9223372036854775808)) (hi := 9223372036854775807) (by decide) (show _ < 9 by omega) rfl
            rw [e211] at b212
            refine pm_laload (len := 9) (v := y210) hC 75 rfl rfl (by decide) ⟨by omega, by omega⟩ (by decide) e211 dX10_weighOdds_94 ?_
            refine pm_lmul hC dX10_weighOdds_95 ?_
            refine pm_wrL hC (fun y213 hw215 b214 => ?_)
            replace hb179 := hb179.trans (pf_let_eq hw215)
            have b214 := And.intro b214.1 b214.2
            refine pm_lload_n hC 2 dX10_weighOdds_96 rfl ?_
            refine pm_ladd hC dX10_weighOdds_97 ?_
            refine pm_wrL hC (fun y216 hw218 b217 => ?_)
            replace hb179 := hb179.trans (pf_let_eq hw218)
            have b217 := And.intro b217.1 b217.2
            refine pm_lmul hC dX10_weighOdds_98 ?_
            refine pm_wrL hC (fun y219 hw221 b220 => ?_)
            replace hb179 := hb179.trans (pf_let_eq hw221)
            have b220 := And.intro b220.1 b220.2
            refine pm_lastore (len := 9) hC 77 rfl rfl (by decide) ⟨by omega, by omega⟩ (by decide) dX10_weighOdds_99 ?_
            obtain ⟨x222, ei223⟩ : ∃ y : Int, x165 + 1 = y := ⟨_, rfl⟩
            replace hb179 := hb179.trans (pf_let_eq ei223)
            refine pm_iinc (y := x222) (lv' := [(5, (0, x222)), (0, (3, 73)), (1, (1, y124)), (3, (1, y133))]) hC 3 dX10_weighOdds_100 (by decide) rfl ei223 rfl ?_
            refine pm_goto (tgt := 62) hC dX10_weighOdds_103 (by decide) ?_
            refine pm_lvsub [1, 2, 3, 0] (lv' := [(0, (3, 73)), (1, (1, y124)), (3, (1, y133)), (5, (0, x222))]) rfl ?_
            exact ih183 _ (by omega) x222 (pm_up V167 77 (x165 : Int).toNat y219) ⟨by omega, by omega⟩ (hV168.put 77 (x165 : Int).toNat (x := y219) (lo := (-9223372036854775808)) (hi := 9223372036854775807) rfl ⟨by omega, by omega⟩) (hF169.upa 77 (x165 : Int).toNat y219 rfl) e170 e171 e172 e173 e174 e175 e176 (hT.trans (pf_val_inl hb179)) rfl
      refine pm_lvsub [3, 2, 1, 0] (lv' := [(0, (3, 73)), (1, (1, y124)), (3, (1, y133)), (5, (0, 0))]) rfl ?_
      exact L180 _ 0 V154 ⟨by decide, by decide⟩ hV156 hF157 e158 e159 e160 e161 e162 e163 e164 hT rfl
    · skip
      replace hT := hT.trans (if_neg (fun q => q c153))
      refine pm_aload_n hC 2 (by decide) dX10_weighOdds_54 rfl ?_
      refine pm_callV (ci := 10) (as := []) (st := []) hC 73 fD_X10_weighVoice_73 lm_X10_126 li_X10_weighVoice (by decide) (by decide) rfl rfl rfl (by decide) rfl rfl (Nat.le_of_ble_eq_true rfl) ⟨Nat.le_refl _, Or.inl rfl⟩ dX10_weighOdds_55 ⟨rfl, (hV0.put 73 14 (x := y148) (lo := (-9223372036854775808)) (hi := 9223372036854775807) rfl ⟨by omega, by omega⟩)⟩ (fun r224 V225 hp226 => ?_)
      obtain ⟨rfl, hV227, hF228, hE229⟩ := hp226
      replace hT := hT.trans (pf_call_eq hE229)
      change pm_J X 58 [(3, (1, y133)), (1, (1, y124)), (0, (3, 73))] [] 118 V225
      have hF230 := pm_ff.tr ((pm_ff.rf (cs := [76, 77]) (fs := [(73, 14)]) (V := V0)).upf 73 14 y148 rfl) hF228 (by decide) (by decide)
      have e231 : V225 73 7 = y1 := by rw [hF228 73 7 (by decide) (by decide)]; exact e2
      have e232 : V225 73 0 = 51 := by rw [hF228 73 0 (by decide) (by decide)]; exact e4
      have e233 : V225 51 0 = y121 := by rw [hF228 51 0 (by decide) (by decide)]; exact e122
      have e234 : V225 73 11 = y130 := by rw [hF228 73 11 (by decide) (by decide)]; exact e131
      have e235 : V225 73 12 = y136 := by rw [hF228 73 12 (by decide) (by decide)]; exact e137
      have e236 : V225 73 10 = y142 := by rw [hF228 73 10 (by decide) (by decide)]; exact e143
      exact pm_vret hC hR ⟨rfl, hV227, hF230, hT⟩ dX10_weighOdds_58
set_option maxHeartbeats 4000000 in
set_option maxRecDepth 100000 in
theorem fD_X5_learntOf_45 (a1 a2 : Int) (h0 : 0 ≤ a1 ∧ a1 ≤ 8) (h1 : 0 ≤ a2 ∧ a2 ≤ 8) : pm_K 1 yX5_learntOf cX5_learntOf 4 (some .int) (fun av V => av = [(3, 45), (0, a1), (0, a2)] ∧ pm_ok 0 90 V) (fun _ V r V' => ∃ y, r = some (0, y) ∧ ((-1) ≤ y ∧ y ≤ 8) ∧ V = V' ∧ F_X5_learntOf 45 a1 a2 V = (y, V)) := by
  refine pm_MT.of (by decide) ⟨Nat.le_refl _, by decide⟩ (fun av V h => by rw [h.1]; exact (by decide : pm_words [(3, 0), (0, 0), (0, 0)] ≤ 4)) ?_
  rintro X av V0 hC - hR ⟨rfl, hV0⟩
  change pm_J X 0 [(0, (3, 45)), (1, (0, a1)), (2, (0, a2))] [] 118 V0
  have hT := F_X5_learntOf_eq 45 a1 a2 V0
  refine pm_iconst (v := 0) hC dX5_learntOf_0 ?_
  refine pm_istore_n (lv' := [(3, (0, 0)), (0, (3, 45)), (1, (0, a1)), (2, (0, a2))]) hC dX5_learntOf_1 (by decide) rfl ?_
  obtain ⟨B3, hB4, hT⟩ := pf_loop hT
  have L6 : ∀ (N8 : Nat) (x1 : Int), (0 ≤ x1 ∧ x1 ≤ 16) → F_X5_learntOf 45 a1 a2 V0 = pf_val ((0 : Int), V0) B3 x1 → (Int.toNat (16 - x1)) = N8 → pm_J X 2 [(0, (3, 45)), (1, (0, a1)), (2, (0, a2)), (3, (0, x1))] [] 118 V0 := by
    intro N8
    induction N8 using Nat.strongRecOn with
    | _ N8 ih9 =>
    intro x1 b2 hT hm7
    have hb5 := congrFun hB4 x1
    refine pm_iload_n hC 3 dX5_learntOf_2 rfl ?_
    refine pm_aload_n hC 0 (by decide) dX5_learntOf_3 rfl ?_
    obtain ⟨y10, e11⟩ : ∃ y, V0 45 10 = y := ⟨_, rfl⟩
    have b12 := hV0.get 45 10 (lo := 0) (hi := 12) (by decide) (by decide) rfl
    rw [e11] at b12
    replace hb5 := hb5.trans (pf_let_eq e11)
    refine pm_getf (v := y10) hC 45 fl_X5_49 rfl rfl (by decide) rfl e11 dX5_learntOf_4 ?_
    refine pm_icmp_ge (tgt := 38) hC ⟨by omega, by omega⟩ ⟨by omega, by omega⟩ dX5_learntOf_7 (by decide) (fun c13 => ?_) (fun c13 => ?_)
    · skip
      replace hb5 := hb5.trans (if_pos c13)
      refine pm_iconst (v := (-1)) hC dX5_learntOf_38 ?_
      have hT := hT.trans (pf_val_inr hb5)
      exact pm_iret hC hR pm_nar0 ⟨(-1), rfl, ⟨by omega, by omega⟩, rfl, hT⟩ dX5_learntOf_39
    · skip
      replace hb5 := hb5.trans (if_neg (Int.not_le.mpr c13))
      refine pm_aload_n hC 0 (by decide) dX5_learntOf_10 rfl ?_
      have e14 : V0 45 11 = 49 := hV0.one 45 11 (by decide) (by decide) rfl
      refine pm_getf (v := 49) hC 45 fl_X5_21 rfl rfl (by decide) rfl e14 dX5_learntOf_11 ?_
      refine pm_iload_n hC 3 dX5_learntOf_14 rfl ?_
      obtain ⟨y15, e16⟩ : ∃ y, V0 49 (x1 : Int).toNat = y := ⟨_, rfl⟩
      replace hb5 := hb5.trans (pf_let_eq e16)
      have b17 := hV0.get 49 (x1 : Int).toNat (lo := 0) (hi := 99) (by decide) (show _ < 12 by omega) rfl
      rw [e16] at b17
      refine pm_iaload (len := 12) (v := y15) hC 49 rfl rfl (by decide) ⟨by omega, by omega⟩ (by decide) e16 dX5_learntOf_15 ?_
      refine pm_iload_n hC 1 dX5_learntOf_16 rfl ?_
      refine pm_bipush (v := 10) hC dX5_learntOf_17 (by decide) ?_
      refine pm_imul hC dX5_learntOf_19 ?_
      refine pm_iload_n hC 2 dX5_learntOf_20 rfl ?_
      refine pm_iadd hC dX5_learntOf_21 ?_
      refine pm_icmp_ne (tgt := 32) hC ⟨by omega, by omega⟩ ⟨by omega, by omega⟩ dX5_learntOf_22 (by decide) (fun c18 => ?_) (fun c18 => ?_)
      · skip
        replace hb5 := hb5.trans (if_pos c18)
        obtain ⟨x19, ei20⟩ : ∃ y : Int, x1 + 1 = y := ⟨_, rfl⟩
        replace hb5 := hb5.trans (pf_let_eq ei20)
        refine pm_iinc (y := x19) (lv' := [(3, (0, x19)), (0, (3, 45)), (1, (0, a1)), (2, (0, a2))]) hC 3 dX5_learntOf_32 (by decide) rfl ei20 rfl ?_
        refine pm_goto (tgt := 2) hC dX5_learntOf_35 (by decide) ?_
        refine pm_lvsub [1, 2, 3, 0] (lv' := [(0, (3, 45)), (1, (0, a1)), (2, (0, a2)), (3, (0, x19))]) rfl ?_
        exact ih9 _ (by omega) x19 ⟨by omega, by omega⟩ (hT.trans (pf_val_inl hb5)) rfl
      · skip
        replace hb5 := hb5.trans (if_neg (fun q => q c18))
        refine pm_aload_n hC 0 (by decide) dX5_learntOf_25 rfl ?_
        have e21 : V0 45 12 = 50 := hV0.one 45 12 (by decide) (by decide) rfl
        refine pm_getf (v := 50) hC 45 fl_X5_24 rfl rfl (by decide) rfl e21 dX5_learntOf_26 ?_
        refine pm_iload_n hC 3 dX5_learntOf_29 rfl ?_
        obtain ⟨y22, e23⟩ : ∃ y, V0 50 (x1 : Int).toNat = y := ⟨_, rfl⟩
        replace hb5 := hb5.trans (pf_let_eq e23)
        have b24 := hV0.get 50 (x1 : Int).toNat (lo := 0) (hi := 8) (by decide) (show _ < 12 by omega) rfl
        rw [e23] at b24
        refine pm_iaload (len := 12) (v := y22) hC 50 rfl rfl (by decide) ⟨by omega, by omega⟩ (by decide) e23 dX5_learntOf_30 ?_
        have hT := hT.trans (pf_val_inr hb5)
        exact pm_iret hC hR pm_nar0 ⟨y22, rfl, ⟨by omega, by omega⟩, rfl, hT⟩ dX5_learntOf_31
  refine pm_lvsub [1, 2, 3, 0] (lv' := [(0, (3, 45)), (1, (0, a1)), (2, (0, a2)), (3, (0, 0))]) rfl ?_
  exact L6 _ 0 ⟨by decide, by decide⟩ hT rfl
set_option maxHeartbeats 4000000 in
set_option maxRecDepth 100000 in
theorem fD_X10_weighSingle_73 (a1 : Int) (h0 : (-2147483648) ≤ a1 ∧ a1 ≤ 2147483647) : pm_K 1 yX10_weighSingle cX10_weighSingle 3 none (fun av V => av = [(3, 73), (0, a1)] ∧ pm_ok 0 90 V) (fun _ V r V' => r = none ∧ pm_ok 0 90 V' ∧ pm_ff [76, 77] [(73, 14)] V V' ∧ F_X10_weighSingle a1 V = (0, V')) := by
  refine pm_MT.of (by decide) ⟨Nat.le_refl _, by decide⟩ (fun av V h => by rw [h.1]; exact (by decide : pm_words [(3, 0), (0, 0)] ≤ 3)) ?_
  rintro X av V0 hC - hR ⟨rfl, hV0⟩
  change pm_J X 0 [(0, (3, 73)), (1, (0, a1))] [] 118 V0
  have hT := F_X10_weighSingle_eq a1 V0
  refine pm_iconst (v := 0) hC dX10_weighSingle_0 ?_
  refine pm_istore_n (lv' := [(2, (0, 0)), (0, (3, 73)), (1, (0, a1))]) hC dX10_weighSingle_1 (by decide) rfl ?_
  obtain ⟨B6, hB7, hT⟩ := pf_loop hT
  have L9 : ∀ (N11 : Nat) (x1 : Int) (V3 : pm_M), (0 ≤ x1 ∧ x1 ≤ 9) → pm_ok 0 90 V3 → pm_ff [76, 77] [(73, 14)] V0 V3 → F_X10_weighSingle a1 V0 = pf_val ((0 : Int), V0) B6 (x1, V3) → (Int.toNat (9 - x1)) = N11 → pm_J X 2 [(0, (3, 73)), (1, (0, a1)), (2, (0, x1))] [] 118 V3 := by
    intro N11
    induction N11 using Nat.strongRecOn with
    | _ N11 ih12 =>
    intro x1 V3 b2 hV4 hF5 hT hm10
    have hb8 := congrFun hB7 (x1, V3)
    refine pm_iload_n hC 2 dX10_weighSingle_2 rfl ?_
    refine pm_aload_n hC 0 (by decide) dX10_weighSingle_3 rfl ?_
    rcases hV4.get2 73 0 (lo := 45) (hi := 51) (by decide) (by decide) rfl with e13 | e13
    · skip
      replace hb8 := hb8.trans (if_pos e13)
      refine pm_getf (v := 45) hC 73 fl_X10_59 rfl rfl (by decide) rfl e13 dX10_weighSingle_4 ?_
      obtain ⟨y14, e15⟩ : ∃ y, V3 45 0 = y := ⟨_, rfl⟩
      have b16 := hV4.get 45 0 (lo := 0) (hi := 9) (by decide) (by decide) rfl
      rw [e15] at b16
      replace hb8 := hb8.trans (pf_let_eq e15)
      refine pm_getf (v := y14) hC 45 fl_X10_79 rfl rfl (by decide) rfl e15 dX10_weighSingle_7 ?_
      refine pm_icmp_ge (tgt := 35) hC ⟨by omega, by omega⟩ ⟨by omega, by omega⟩ dX10_weighSingle_10 (by decide) (fun c17 => ?_) (fun c17 => ?_)
      · skip
        replace hb8 := hb8.trans (if_pos c17)
        refine pm_aload_n hC 0 (by decide) dX10_weighSingle_35 rfl ?_
        refine pm_lconst (x := 1) hC dX10_weighSingle_36 rfl ?_
        refine pm_putf hC 73 fl_X10_53 rfl rfl rfl (by decide) rfl trivial dX10_weighSingle_37 ?_
        have hT := hT.trans (pf_val_inr hb8)
        exact pm_vret hC hR ⟨rfl, (hV4.put 73 14 (x := 1) (lo := (-9223372036854775808)) (hi := 9223372036854775807) rfl ⟨by decide, by decide⟩), (hF5.upf 73 14 1 rfl), hT⟩ dX10_weighSingle_40
      · skip
        replace hb8 := hb8.trans (if_neg (Int.not_le.mpr c17))
        refine pm_aload_n hC 0 (by decide) dX10_weighSingle_13 rfl ?_
        rcases hV4.get2 73 13 (lo := 76) (hi := 77) (by decide) (by decide) rfl with e18 | e18
        · skip
          replace hb8 := hb8.trans (if_pos e18)
          refine pm_getf (v := 76) hC 73 fl_X10_50 rfl rfl (by decide) rfl e18 dX10_weighSingle_14 ?_
          refine pm_iload_n hC 2 dX10_weighSingle_17 rfl ?_
          refine pm_iload_n hC 2 dX10_weighSingle_18 rfl ?_
          refine pm_iload_n hC 1 dX10_weighSingle_19 rfl ?_
          refine pm_icmp_ne (tgt := 27) hC ⟨by omega, by omega⟩ ⟨by omega, by omega⟩ dX10_weighSingle_20 (by decide) (fun c19 => ?_) (fun c19 => ?_)
          · skip
            replace hb8 := hb8.trans (if_pos c19)
            refine pm_lconst (x := 0) hC dX10_weighSingle_27 rfl ?_
            refine pm_lastore (len := 9) hC 76 rfl rfl (by decide) ⟨by omega, by omega⟩ (by decide) dX10_weighSingle_28 ?_
            obtain ⟨x20, ei21⟩ : ∃ y : Int, x1 + 1 = y := ⟨_, rfl⟩
            replace hb8 := hb8.trans (pf_let_eq ei21)
            refine pm_iinc (y := x20) (lv' := [(2, (0, x20)), (0, (3, 73)), (1, (0, a1))]) hC 2 dX10_weighSingle_29 (by decide) rfl ei21 rfl ?_
            refine pm_goto (tgt := 2) hC dX10_weighSingle_32 (by decide) ?_
            refine pm_lvsub [1, 2, 0] (lv' := [(0, (3, 73)), (1, (0, a1)), (2, (0, x20))]) rfl ?_
            exact ih12 _ (by omega) x20 (pm_up V3 76 (x1 : Int).toNat 0) ⟨by omega, by omega⟩ (hV4.put 76 (x1 : Int).toNat (x := 0) (lo := (-9223372036854775808)) (hi := 9223372036854775807) rfl ⟨by decide, by decide⟩) (hF5.upa 76 (x1 : Int).toNat 0 rfl) (hT.trans (pf_val_inl hb8)) rfl
          · skip
            replace hb8 := hb8.trans (if_neg (fun q => q c19))
            refine pm_lconst (x := 1) hC dX10_weighSingle_23 rfl ?_
            refine pm_goto (tgt := 28) hC dX10_weighSingle_24 (by decide) ?_
            refine pm_lastore (len := 9) hC 76 rfl rfl (by decide) ⟨by omega, by omega⟩ (by decide) dX10_weighSingle_28 ?_
            obtain ⟨x22, ei23⟩ : ∃ y : Int, x1 + 1 = y := ⟨_, rfl⟩
            replace hb8 := hb8.trans (pf_let_eq ei23)
            refine pm_iinc (y := x22) (lv' := [(2, (0, x22)), (0, (3, 73)), (1, (0, a1))]) hC 2 dX10_weighSingle_29 (by decide) rfl ei23 rfl ?_
            refine pm_goto (tgt := 2) hC dX10_weighSingle_32 (by decide) ?_
            refine pm_lvsub [1, 2, 0] (lv' := [(0, (3, 73)), (1, (0, a1)), (2, (0, x22))]) rfl ?_
            exact ih12 _ (by omega) x22 (pm_up V3 76 (x1 : Int).toNat 1) ⟨by omega, by omega⟩ (hV4.put 76 (x1 : Int).toNat (x := 1) (lo := (-9223372036854775808)) (hi := 9223372036854775807) rfl ⟨by decide, by decide⟩) (hF5.upa 76 (x1 : Int).toNat 1 rfl) (hT.trans (pf_val_inl hb8)) rfl
        · skip
          replace hb8 := hb8.trans (if_neg (by rw [e18]; decide))
          refine pm_getf (v := 77) hC 73 fl_X10_50 rfl rfl (by decide) rfl e18 dX10_weighSingle_14 ?_
          refine pm_iload_n hC 2 dX10_weighSingle_17 rfl ?_
          refine pm_iload_n hC 2 dX10_weighSingle_18 rfl ?_
          refine pm_iload_n hC 1 dX10_weighSingle_19 rfl ?_
          refine pm_icmp_ne (tgt := 27) hC ⟨by omega, by omega⟩ ⟨by omega, by omega⟩ dX10_weighSingle_20 (by decide) (fun c24 => ?_) (fun c24 => ?_)
          · skip
            replace hb8 := hb8.trans (if_pos c24)
            refine pm_lconst (x := 0) hC dX10_weighSingle_27 rfl ?_
            refine pm_lastore (len := 9) hC 77 rfl rfl (by decide) ⟨by omega, by omega⟩ (by decide) dX10_weighSingle_28 ?_
            obtain ⟨x25, ei26⟩ : ∃ y : Int, x1 + 1 = y := ⟨_, rfl⟩
            replace hb8 := hb8.trans (pf_let_eq ei26)
            refine pm_iinc (y := x25) (lv' := [(2, (0, x25)), (0, (3, 73)), (1, (0, a1))]) hC 2 dX10_weighSingle_29 (by decide) rfl ei26 rfl ?_
            refine pm_goto (tgt := 2) hC dX10_weighSingle_32 (by decide) ?_
            refine pm_lvsub [1, 2, 0] (lv' := [(0, (3, 73)), (1, (0, a1)), (2, (0, x25))]) rfl ?_
            exact ih12 _ (by omega) x25 (pm_up V3 77 (x1 : Int).toNat 0) ⟨by omega, by omega⟩ (hV4.put 77 (x1 : Int).toNat (x := 0) (lo := (-9223372036854775808)) (hi := 9223372036854775807) rfl ⟨by decide, by decide⟩) (hF5.upa 77 (x1 : Int).toNat 0 rfl) (hT.trans (pf_val_inl hb8)) rfl
          · skip
            replace hb8 := hb8.trans (if_neg (fun q => q c24))
            refine pm_lconst (x := 1) hC dX10_weighSingle_23 rfl ?_
            refine pm_goto (tgt := 28) hC dX10_weighSingle_24 (by decide) ?_
            refine pm_lastore (len := 9) hC 77 rfl rfl (by decide) ⟨by omega, by omega⟩ (by decide) dX10_weighSingle_28 ?_
            obtain ⟨x27, ei28⟩ : ∃ y : Int, x1 + 1 = y := ⟨_, rfl⟩
            replace hb8 := hb8.trans (pf_let_eq ei28)
            refine pm_iinc (y := x27) (lv' := [(2, (0, x27)), (0, (3, 73)), (1, (0, a1))]) hC 2 dX10_weighSingle_29 (by decide) rfl ei28 rfl ?_
            refine pm_goto (tgt := 2) hC dX10_weighSingle_32 (by decide) ?_
            refine pm_lvsub [1, 2, 0] (lv' := [(0, (3, 73)), (1, (0, a1)), (2, (0, x27))]) rfl ?_
            exact ih12 _ (by omega) x27 (pm_up V3 77 (x1 : Int).toNat 1) ⟨by omega, by omega⟩ (hV4.put 77 (x1 : Int).toNat (x := 1) (lo := (-9223372036854775808)) (hi := 9223372036854775807) rfl ⟨by decide, by decide⟩) (hF5.upa 77 (x1 : Int).toNat 1 rfl) (hT.trans (pf_val_inl hb8)) rfl
    · skip
      replace hb8 := hb8.trans (if_neg (by rw [e13]; decide))
      refine pm_getf (v := 51) hC 73 fl_X10_59 rfl rfl (by decide) rfl e13 dX10_weighSingle_4 ?_
      obtain ⟨y29, e30⟩ : ∃ y, V3 51 0 = y := ⟨_, rfl⟩
      have b31 := hV4.get 51 0 (lo := 0) (hi := 9) (by decide) (by decide) rfl
      rw [e30] at b31
      replace hb8 := hb8.trans (pf_let_eq e30)
      refine pm_getf (v := y29) hC 51 fl_X10_79 rfl rfl (by decide) rfl e30 dX10_weighSingle_7 ?_
      refine pm_icmp_ge (tgt := 35) hC ⟨by omega, by omega⟩ ⟨by omega, by omega⟩ dX10_weighSingle_10 (by decide) (fun c32 => ?_) (fun c32 => ?_)
      · skip
        replace hb8 := hb8.trans (if_pos c32)
        refine pm_aload_n hC 0 (by decide) dX10_weighSingle_35 rfl ?_
        refine pm_lconst (x := 1) hC dX10_weighSingle_36 rfl ?_
        refine pm_putf hC 73 fl_X10_53 rfl rfl rfl (by decide) rfl trivial dX10_weighSingle_37 ?_
        have hT := hT.trans (pf_val_inr hb8)
        exact pm_vret hC hR ⟨rfl, (hV4.put 73 14 (x := 1) (lo := (-9223372036854775808)) (hi := 9223372036854775807) rfl ⟨by decide, by decide⟩), (hF5.upf 73 14 1 rfl), hT⟩ dX10_weighSingle_40
      · skip
        replace hb8 := hb8.trans (if_neg (Int.not_le.mpr c32))
        refine pm_aload_n hC 0 (by decide) dX10_weighSingle_13 rfl ?_
        rcases hV4.get2 73 13 (lo := 76) (hi := 77) (by decide) (by decide) rfl with e33 | e33
        · skip
          replace hb8 := hb8.trans (if_pos e33)
          refine pm_getf (v := 76) hC 73 fl_X10_50 rfl rfl (by decide) rfl e33 dX10_weighSingle_14 ?_
          refine pm_iload_n hC 2 dX10_weighSingle_17 rfl ?_
          refine pm_iload_n hC 2 dX10_weighSingle_18 rfl ?_
          refine pm_iload_n hC 1 dX10_weighSingle_19 rfl ?_
          refine pm_icmp_ne (tgt := 27) hC ⟨by omega, by omega⟩ ⟨by omega, by omega⟩ dX10_weighSingle_20 (by decide) (fun c34 => ?_) (fun c34 => ?_)
          · skip
            replace hb8 := hb8.trans (if_pos c34)
            refine pm_lconst (x := 0) hC dX10_weighSingle_27 rfl ?_
            refine pm_lastore (len := 9) hC 76 rfl rfl (by decide) ⟨by omega, by omega⟩ (by decide) dX10_weighSingle_28 ?_
            obtain ⟨x35, ei36⟩ : ∃ y : Int, x1 + 1 = y := ⟨_, rfl⟩
            replace hb8 := hb8.trans (pf_let_eq ei36)
            refine pm_iinc (y := x35) (lv' := [(2, (0, x35)), (0, (3, 73)), (1, (0, a1))]) hC 2 dX10_weighSingle_29 (by decide) rfl ei36 rfl ?_
            refine pm_goto (tgt := 2) hC dX10_weighSingle_32 (by decide) ?_
            refine pm_lvsub [1, 2, 0] (lv' := [(0, (3, 73)), (1, (0, a1)), (2, (0, x35))]) rfl ?_
            exact ih12 _ (by omega) x35 (pm_up V3 76 (x1 : Int).toNat 0) ⟨by omega, by omega⟩ (hV4.put 76 (x1 : Int).toNat (x := 0) (lo := (-9223372036854775808)) (hi := 9223372036854775807) rfl ⟨by decide, by decide⟩) (hF5.upa 76 (x1 : Int).toNat 0 rfl) (hT.trans (pf_val_inl hb8)) rfl
          · skip
            replace hb8 := hb8.trans (if_neg (fun q => q c34))
            refine pm_lconst (x := 1) hC dX10_weighSingle_23 rfl ?_
            refine pm_goto (tgt := 28) hC dX10_weighSingle_24 (by decide) ?_
            refine pm_lastore (len := 9) hC 76 rfl rfl (by decide) ⟨by omega, by omega⟩ (by decide) dX10_weighSingle_28 ?_
            obtain ⟨x37, ei38⟩ : ∃ y : Int, x1 + 1 = y := ⟨_, rfl⟩
            replace hb8 := hb8.trans (pf_let_eq ei38)
            refine pm_iinc (y := x37) (lv' := [(2, (0, x37)), (0, (3, 73)), (1, (0, a1))]) hC 2 dX10_weighSingle_29 (by decide) rfl ei38 rfl ?_
            refine pm_goto (tgt := 2) hC dX10_weighSingle_32 (by decide) ?_
            refine pm_lvsub [1, 2, 0] (lv' := [(0, (3, 73)), (1, (0, a1)), (2, (0, x37))]) rfl ?_
            exact ih12 _ (by omega) x37 (pm_up V3 76 (x1 : Int).toNat 1) ⟨by omega, by omega⟩ (hV4.put 76 (x1 : Int).toNat (x := 1) (lo := (-9223372036854775808)) (hi := 9223372036854775807) rfl ⟨by decide, by decide⟩) (hF5.upa 76 (x1 : Int).toNat 1 rfl) (hT.trans (pf_val_inl hb8)) rfl
        · skip
          replace hb8 := hb8.trans (if_neg (by rw [e33]; decide))
          refine pm_getf (v := 77) hC 73 fl_X10_50 rfl rfl (by decide) rfl e33 dX10_weighSingle_14 ?_
          refine pm_iload_n hC 2 dX10_weighSingle_17 rfl ?_
          refine pm_iload_n hC 2 dX10_weighSingle_18 rfl ?_
          refine pm_iload_n hC 1 dX10_weighSingle_19 rfl ?_
          refine pm_icmp_ne (tgt := 27) hC ⟨by omega, by omega⟩ ⟨by omega, by omega⟩ dX10_weighSingle_20 (by decide) (fun c39 => ?_) (fun c39 => ?_)
          · skip
            replace hb8 := hb8.trans (if_pos c39)
            refine pm_lconst (x := 0) hC dX10_weighSingle_27 rfl ?_
            refine pm_lastore (len := 9) hC 77 rfl rfl (by decide) ⟨by omega, by omega⟩ (by decide) dX10_weighSingle_28 ?_
            obtain ⟨x40, ei41⟩ : ∃ y : Int, x1 + 1 = y := ⟨_, rfl⟩
            replace hb8 := hb8.trans (pf_let_eq ei41)
            refine pm_iinc (y := x40) (lv' := [(2, (0, x40)), (0, (3, 73)), (1, (0, a1))]) hC 2 dX10_weighSingle_29 (by decide) rfl ei41 rfl ?_
            refine pm_goto (tgt := 2) hC dX10_weighSingle_32 (by decide) ?_
            refine pm_lvsub [1, 2, 0] (lv' := [(0, (3, 73)), (1, (0, a1)), (2, (0, x40))]) rfl ?_
            exact ih12 _ (by omega) x40 (pm_up V3 77 (x1 : Int).toNat 0) ⟨by omega, by omega⟩ (hV4.put 77 (x1 : Int).toNat (x := 0) (lo := (-9223372036854775808)) (hi := 9223372036854775807) rfl ⟨by decide, by decide⟩) (hF5.upa 77 (x1 : Int).toNat 0 rfl) (hT.trans (pf_val_inl hb8)) rfl
          · skip
            replace hb8 := hb8.trans (if_neg (fun q => q c39))
            refine pm_lconst (x := 1) hC dX10_weighSingle_23 rfl ?_
            refine pm_goto (tgt := 28) hC dX10_weighSingle_24 (by decide) ?_
            refine pm_lastore (len := 9) hC 77 rfl rfl (by decide) ⟨by omega, by omega⟩ (by decide) dX10_weighSingle_28 ?_
            obtain ⟨x42, ei43⟩ : ∃ y : Int, x1 + 1 = y := ⟨_, rfl⟩
            replace hb8 := hb8.trans (pf_let_eq ei43)
            refine pm_iinc (y := x42) (lv' := [(2, (0, x42)), (0, (3, 73)), (1, (0, a1))]) hC 2 dX10_weighSingle_29 (by decide) rfl ei43 rfl ?_
            refine pm_goto (tgt := 2) hC dX10_weighSingle_32 (by decide) ?_
            refine pm_lvsub [1, 2, 0] (lv' := [(0, (3, 73)), (1, (0, a1)), (2, (0, x42))]) rfl ?_
            exact ih12 _ (by omega) x42 (pm_up V3 77 (x1 : Int).toNat 1) ⟨by omega, by omega⟩ (hV4.put 77 (x1 : Int).toNat (x := 1) (lo := (-9223372036854775808)) (hi := 9223372036854775807) rfl ⟨by decide, by decide⟩) (hF5.upa 77 (x1 : Int).toNat 1 rfl) (hT.trans (pf_val_inl hb8)) rfl
  refine pm_lvsub [1, 2, 0] (lv' := [(0, (3, 73)), (1, (0, a1)), (2, (0, 0))]) rfl ?_
  exact L9 _ 0 V0 ⟨by decide, by decide⟩ hV0 (pm_ff.rf (cs := [76, 77]) (fs := [(73, 14)]) (V := V0)) hT rfl
set_option maxHeartbeats 4000000 in
set_option maxRecDepth 100000 in
theorem fD_X5_learntOf_51 (a1 a2 : Int) (h0 : 0 ≤ a1 ∧ a1 ≤ 8) (h1 : 0 ≤ a2 ∧ a2 ≤ 8) : pm_K 1 yX5_learntOf cX5_learntOf 4 (some .int) (fun av V => av = [(3, 51), (0, a1), (0, a2)] ∧ pm_ok 0 90 V) (fun _ V r V' => ∃ y, r = some (0, y) ∧ ((-1) ≤ y ∧ y ≤ 8) ∧ V = V' ∧ F_X5_learntOf 51 a1 a2 V = (y, V)) := by
  refine pm_MT.of (by decide) ⟨Nat.le_refl _, by decide⟩ (fun av V h => by rw [h.1]; exact (by decide : pm_words [(3, 0), (0, 0), (0, 0)] ≤ 4)) ?_
  rintro X av V0 hC - hR ⟨rfl, hV0⟩
  change pm_J X 0 [(0, (3, 51)), (1, (0, a1)), (2, (0, a2))] [] 118 V0
  have hT := F_X5_learntOf_eq 51 a1 a2 V0
  refine pm_iconst (v := 0) hC dX5_learntOf_0 ?_
  refine pm_istore_n (lv' := [(3, (0, 0)), (0, (3, 51)), (1, (0, a1)), (2, (0, a2))]) hC dX5_learntOf_1 (by decide) rfl ?_
  obtain ⟨B3, hB4, hT⟩ := pf_loop hT
  have L6 : ∀ (N8 : Nat) (x1 : Int), (0 ≤ x1 ∧ x1 ≤ 16) → F_X5_learntOf 51 a1 a2 V0 = pf_val ((0 : Int), V0) B3 x1 → (Int.toNat (16 - x1)) = N8 → pm_J X 2 [(0, (3, 51)), (1, (0, a1)), (2, (0, a2)), (3, (0, x1))] [] 118 V0 := by
    intro N8
    induction N8 using Nat.strongRecOn with
    | _ N8 ih9 =>
    intro x1 b2 hT hm7
    have hb5 := congrFun hB4 x1
    refine pm_iload_n hC 3 dX5_learntOf_2 rfl ?_
    refine pm_aload_n hC 0 (by decide) dX5_learntOf_3 rfl ?_
    obtain ⟨y10, e11⟩ : ∃ y, V0 51 10 = y := ⟨_, rfl⟩
    have b12 := hV0.get 51 10 (lo := 0) (hi := 12) (by decide) (by decide) rfl
    rw [e11] at b12
    replace hb5 := hb5.trans (pf_let_eq e11)
    refine pm_getf (v := y10) hC 51 fl_X5_49 rfl rfl (by decide) rfl e11 dX5_learntOf_4 ?_
    refine pm_icmp_ge (tgt := 38) hC ⟨by omega, by omega⟩ ⟨by omega, by omega⟩ dX5_learntOf_7 (by decide) (fun c13 => ?_) (fun c13 => ?_)
    · skip
      replace hb5 := hb5.trans (if_pos c13)
      refine pm_iconst (v := (-1)) hC dX5_learntOf_38 ?_
      have hT := hT.trans (pf_val_inr hb5)
      exact pm_iret hC hR pm_nar0 ⟨(-1), rfl, ⟨by omega, by omega⟩, rfl, hT⟩ dX5_learntOf_39
    · skip
      replace hb5 := hb5.trans (if_neg (Int.not_le.mpr c13))
      refine pm_aload_n hC 0 (by decide) dX5_learntOf_10 rfl ?_
      have e14 : V0 51 11 = 55 := hV0.one 51 11 (by decide) (by decide) rfl
      refine pm_getf (v := 55) hC 51 fl_X5_21 rfl rfl (by decide) rfl e14 dX5_learntOf_11 ?_
      refine pm_iload_n hC 3 dX5_learntOf_14 rfl ?_
      obtain ⟨y15, e16⟩ : ∃ y, V0 55 (x1 : Int).toNat = y := ⟨_, rfl⟩
      replace hb5 := hb5.trans (pf_let_eq e16)
      have b17 := hV0.get 55 (x1 : Int).toNat (lo := 0) (hi := 99) (by decide) (show _ < 12 by omega) rfl
      rw [e16] at b17
      refine pm_iaload (len := 12) (v := y15) hC 55 rfl rfl (by decide) ⟨by omega, by omega⟩ (by decide) e16 dX5_learntOf_15 ?_
      refine pm_iload_n hC 1 dX5_learntOf_16 rfl ?_
      refine pm_bipush (v := 10) hC dX5_learntOf_17 (by decide) ?_
      refine pm_imul hC dX5_learntOf_19 ?_
      refine pm_iload_n hC 2 dX5_learntOf_20 rfl ?_
      refine pm_iadd hC dX5_learntOf_21 ?_
      refine pm_icmp_ne (tgt := 32) hC ⟨by omega, by omega⟩ ⟨by omega, by omega⟩ dX5_learntOf_22 (by decide) (fun c18 => ?_) (fun c18 => ?_)
      · skip
        replace hb5 := hb5.trans (if_pos c18)
        obtain ⟨x19, ei20⟩ : ∃ y : Int, x1 + 1 = y := ⟨_, rfl⟩
        replace hb5 := hb5.trans (pf_let_eq ei20)
        refine pm_iinc (y := x19) (lv' := [(3, (0, x19)), (0, (3, 51)), (1, (0, a1)), (2, (0, a2))]) hC 3 dX5_learntOf_32 (by decide) rfl ei20 rfl ?_
        refine pm_goto (tgt := 2) hC dX5_learntOf_35 (by decide) ?_
        refine pm_lvsub [1, 2, 3, 0] (lv' := [(0, (3, 51)), (1, (0, a1)), (2, (0, a2)), (3, (0, x19))]) rfl ?_
        exact ih9 _ (by omega) x19 ⟨by omega, by omega⟩ (hT.trans (pf_val_inl hb5)) rfl
      · skip
        replace hb5 := hb5.trans (if_neg (fun q => q c18))
        refine pm_aload_n hC 0 (by decide) dX5_learntOf_25 rfl ?_
        have e21 : V0 51 12 = 56 := hV0.one 51 12 (by decide) (by decide) rfl
        refine pm_getf (v := 56) hC 51 fl_X5_24 rfl rfl (by decide) rfl e21 dX5_learntOf_26 ?_
        refine pm_iload_n hC 3 dX5_learntOf_29 rfl ?_
        obtain ⟨y22, e23⟩ : ∃ y, V0 56 (x1 : Int).toNat = y := ⟨_, rfl⟩
        replace hb5 := hb5.trans (pf_let_eq e23)
        have b24 := hV0.get 56 (x1 : Int).toNat (lo := 0) (hi := 8) (by decide) (show _ < 12 by omega) rfl
        rw [e23] at b24
        refine pm_iaload (len := 12) (v := y22) hC 56 rfl rfl (by decide) ⟨by omega, by omega⟩ (by decide) e23 dX5_learntOf_30 ?_
        have hT := hT.trans (pf_val_inr hb5)
        exact pm_iret hC hR pm_nar0 ⟨y22, rfl, ⟨by omega, by omega⟩, rfl, hT⟩ dX5_learntOf_31
  refine pm_lvsub [1, 2, 3, 0] (lv' := [(0, (3, 51)), (1, (0, a1)), (2, (0, a2)), (3, (0, 0))]) rfl ?_
  exact L6 _ 0 ⟨by decide, by decide⟩ hT rfl
set_option maxHeartbeats 4000000 in
set_option maxRecDepth 100000 in
theorem fD_X10_weighLearnt_73  : pm_K 3 yX10_weighLearnt cX10_weighLearnt 2 none (fun av V => av = [(3, 73)] ∧ pm_ok 0 90 V) (fun _ V r V' => r = none ∧ pm_ok 0 90 V' ∧ pm_ff [76, 77] [(73, 14)] V V' ∧ F_X10_weighLearnt  V = (0, V')) := by
  refine pm_MT.of (by decide) ⟨Nat.le_refl _, by decide⟩ (fun av V h => by rw [h.1]; exact (by decide : pm_words [(3, 0)] ≤ 2)) ?_
  rintro X av V0 hC - hR ⟨rfl, hV0⟩
  change pm_J X 0 [(0, (3, 73))] [] 118 V0
  have hT := F_X10_weighLearnt_eq  V0
  refine pm_aload_n hC 0 (by decide) dX10_weighLearnt_0 rfl ?_
  rcases hV0.get2 73 0 (lo := 45) (hi := 51) (by decide) (by decide) rfl with e1 | e1
  · skip
    replace hT := hT.trans (if_pos e1)
    refine pm_getf (v := 45) hC 73 fl_X10_59 rfl rfl (by decide) rfl e1 dX10_weighLearnt_1 ?_
    refine pm_aload_n hC 0 (by decide) dX10_weighLearnt_4 rfl ?_
    obtain ⟨y2, e3⟩ : ∃ y, V0 73 1 = y := ⟨_, rfl⟩
    have b4 := hV0.get 73 1 (lo := 0) (hi := 8) (by decide) (by decide) rfl
    rw [e3] at b4
    replace hT := hT.trans (pf_let_eq e3)
    refine pm_getf (v := y2) hC 73 fl_X10_9 rfl rfl (by decide) rfl e3 dX10_weighLearnt_5 ?_
    refine pm_aload_n hC 0 (by decide) dX10_weighLearnt_8 rfl ?_
    obtain ⟨y5, e6⟩ : ∃ y, V0 73 2 = y := ⟨_, rfl⟩
    have b7 := hV0.get 73 2 (lo := 0) (hi := 8) (by decide) (by decide) rfl
    rw [e6] at b7
    replace hT := hT.trans (pf_let_eq e6)
    refine pm_getf (v := y5) hC 73 fl_X10_15 rfl rfl (by decide) rfl e6 dX10_weighLearnt_9 ?_
    refine pm_callV (ci := 5) (as := [(0, y2), (0, y5)]) (st := []) hC 45 (fD_X5_learntOf_45 y2 y5 ⟨by omega, by omega⟩ ⟨by omega, by omega⟩) lm_X10_135 li_X5_learntOf (by decide) (by decide) rfl rfl rfl (by decide) rfl rfl (Nat.le_of_ble_eq_true rfl) ⟨Nat.le_refl _, Or.inl rfl⟩ dX10_weighLearnt_12 ⟨rfl, hV0⟩ (fun r8 V9 hp10 => ?_)
    obtain ⟨y11, rfl, b12, rfl, hE13⟩ := hp10
    replace hT := hT.trans (pf_call_eq hE13)
    change pm_J X 15 [(0, (3, 73))] [(0, y11)] 118 V0
    refine pm_istore_n (lv' := [(1, (0, y11)), (0, (3, 73))]) hC dX10_weighLearnt_15 (by decide) rfl ?_
    refine pm_iload_n hC 0 dX10_weighLearnt_16 rfl ?_
    refine pm_iconst (v := (-1)) hC dX10_weighLearnt_17 ?_
    refine pm_icmp_ne (tgt := 28) hC ⟨by omega, by omega⟩ ⟨by decide, by decide⟩ dX10_weighLearnt_18 (by decide) (fun c14 => ?_) (fun c14 => ?_)
    · skip
      replace hT := hT.trans (if_pos c14)
      refine pm_aload_n hC 1 (by decide) dX10_weighLearnt_28 rfl ?_
      refine pm_iload_n hC 0 dX10_weighLearnt_29 rfl ?_
      refine pm_callV (ci := 10) (as := [(0, y11)]) (st := []) hC 73 (fD_X10_weighSingle_73 y11 ⟨by omega, by omega⟩) lm_X10_122 li_X10_weighSingle (by decide) (by decide) rfl rfl rfl (by decide) rfl rfl (Nat.le_of_ble_eq_true rfl) ⟨Nat.le_refl _, Or.inl rfl⟩ dX10_weighLearnt_30 ⟨rfl, hV0⟩ (fun r15 V16 hp17 => ?_)
      obtain ⟨rfl, hV18, hF19, hE20⟩ := hp17
      replace hT := hT.trans (pf_call_eq hE20)
      change pm_J X 33 [(1, (0, y11)), (0, (3, 73))] [] 118 V16
      have hF21 := pm_ff.tr (pm_ff.rf (cs := [76, 77]) (fs := [(73, 14)]) (V := V0)) hF19 (by decide) (by decide)
      have e22 : V16 73 0 = 45 := by rw [hF19 73 0 (by decide) (by decide)]; exact e1
      have e23 : V16 73 1 = y2 := by rw [hF19 73 1 (by decide) (by decide)]; exact e3
      have e24 : V16 73 2 = y5 := by rw [hF19 73 2 (by decide) (by decide)]; exact e6
      exact pm_vret hC hR ⟨rfl, hV18, hF21, hT⟩ dX10_weighLearnt_33
    · skip
      replace hT := hT.trans (if_neg (fun q => q c14))
      refine pm_aload_n hC 1 (by decide) dX10_weighLearnt_21 rfl ?_
      refine pm_callV (ci := 10) (as := []) (st := []) hC 73 fD_X10_weighOdds_73 lm_X10_112 li_X10_weighOdds (by decide) (by decide) rfl rfl rfl (by decide) rfl rfl (Nat.le_of_ble_eq_true rfl) ⟨Nat.le_refl _, Or.inl rfl⟩ dX10_weighLearnt_22 ⟨rfl, hV0⟩ (fun r25 V26 hp27 => ?_)
      obtain ⟨rfl, hV28, hF29, hE30⟩ := hp27
      replace hT := hT.trans (pf_call_eq hE30)
      change pm_J X 25 [(1, (0, y11)), (0, (3, 73))] [] 118 V26
      have hF31 := pm_ff.tr (pm_ff.rf (cs := [76, 77]) (fs := [(73, 14)]) (V := V0)) hF29 (by decide) (by decide)
      have e32 : V26 73 0 = 45 := by rw [hF29 73 0 (by decide) (by decide)]; exact e1
      have e33 : V26 73 1 = y2 := by rw [hF29 73 1 (by decide) (by decide)]; exact e3
      have e34 : V26 73 2 = y5 := by rw [hF29 73 2 (by decide) (by decide)]; exact e6
      refine pm_goto (tgt := 33) hC dX10_weighLearnt_25 (by decide) ?_
      exact pm_vret hC hR ⟨rfl, hV28, hF31, hT⟩ dX10_weighLearnt_33
  · skip
    replace hT := hT.trans (if_neg (by rw [e1]; decide))
    refine pm_getf (v := 51) hC 73 fl_X10_59 rfl rfl (by decide) rfl e1 dX10_weighLearnt_1 ?_
    refine pm_aload_n hC 0 (by decide) dX10_weighLearnt_4 rfl ?_
    obtain ⟨y35, e36⟩ : ∃ y, V0 73 1 = y := ⟨_, rfl⟩
    have b37 := hV0.get 73 1 (lo := 0) (hi := 8) (by decide) (by decide) rfl
    rw [e36] at b37
    replace hT := hT.trans (pf_let_eq e36)
    refine pm_getf (v := y35) hC 73 fl_X10_9 rfl rfl (by decide) rfl e36 dX10_weighLearnt_5 ?_
    refine pm_aload_n hC 0 (by decide) dX10_weighLearnt_8 rfl ?_
    obtain ⟨y38, e39⟩ : ∃ y, V0 73 2 = y := ⟨_, rfl⟩
    have b40 := hV0.get 73 2 (lo := 0) (hi := 8) (by decide) (by decide) rfl
    rw [e39] at b40
    replace hT := hT.trans (pf_let_eq e39)
    refine pm_getf (v := y38) hC 73 fl_X10_15 rfl rfl (by decide) rfl e39 dX10_weighLearnt_9 ?_
    refine pm_callV (ci := 5) (as := [(0, y35), (0, y38)]) (st := []) hC 51 (fD_X5_learntOf_51 y35 y38 ⟨by omega, by omega⟩ ⟨by omega, by omega⟩) lm_X10_135 li_X5_learntOf (by decide) (by decide) rfl rfl rfl (by decide) rfl rfl (Nat.le_of_ble_eq_true rfl) ⟨Nat.le_refl _, Or.inl rfl⟩ dX10_weighLearnt_12 ⟨rfl, hV0⟩ (fun r41 V42 hp43 => ?_)
    obtain ⟨y44, rfl, b45, rfl, hE46⟩ := hp43
    replace hT := hT.trans (pf_call_eq hE46)
    change pm_J X 15 [(0, (3, 73))] [(0, y44)] 118 V0
    refine pm_istore_n (lv' := [(1, (0, y44)), (0, (3, 73))]) hC dX10_weighLearnt_15 (by decide) rfl ?_
    refine pm_iload_n hC 0 dX10_weighLearnt_16 rfl ?_
    refine pm_iconst (v := (-1)) hC dX10_weighLearnt_17 ?_
    refine pm_icmp_ne (tgt := 28) hC ⟨by omega, by omega⟩ ⟨by decide, by decide⟩ dX10_weighLearnt_18 (by decide) (fun c47 => ?_) (fun c47 => ?_)
    · skip
      replace hT := hT.trans (if_pos c47)
      refine pm_aload_n hC 1 (by decide) dX10_weighLearnt_28 rfl ?_
      refine pm_iload_n hC 0 dX10_weighLearnt_29 rfl ?_
      refine pm_callV (ci := 10) (as := [(0, y44)]) (st := []) hC 73 (fD_X10_weighSingle_73 y44 ⟨by omega, by omega⟩) lm_X10_122 li_X10_weighSingle (by decide) (by decide) rfl rfl rfl (by decide) rfl rfl (Nat.le_of_ble_eq_true rfl) ⟨Nat.le_refl _, Or.inl rfl⟩ dX10_weighLearnt_30 ⟨rfl, hV0⟩ (fun r48 V49 hp50 => ?_)
      obtain ⟨rfl, hV51, hF52, hE53⟩ := hp50
      replace hT := hT.trans (pf_call_eq hE53)
      change pm_J X 33 [(1, (0, y44)), (0, (3, 73))] [] 118 V49
      have hF54 := pm_ff.tr (pm_ff.rf (cs := [76, 77]) (fs := [(73, 14)]) (V := V0)) hF52 (by decide) (by decide)
      have e55 : V49 73 0 = 51 := by rw [hF52 73 0 (by decide) (by decide)]; exact e1
      have e56 : V49 73 1 = y35 := by rw [hF52 73 1 (by decide) (by decide)]; exact e36
      have e57 : V49 73 2 = y38 := by rw [hF52 73 2 (by decide) (by decide)]; exact e39
      exact pm_vret hC hR ⟨rfl, hV51, hF54, hT⟩ dX10_weighLearnt_33
    · skip
      replace hT := hT.trans (if_neg (fun q => q c47))
      refine pm_aload_n hC 1 (by decide) dX10_weighLearnt_21 rfl ?_
      refine pm_callV (ci := 10) (as := []) (st := []) hC 73 fD_X10_weighOdds_73 lm_X10_112 li_X10_weighOdds (by decide) (by decide) rfl rfl rfl (by decide) rfl rfl (Nat.le_of_ble_eq_true rfl) ⟨Nat.le_refl _, Or.inl rfl⟩ dX10_weighLearnt_22 ⟨rfl, hV0⟩ (fun r58 V59 hp60 => ?_)
      obtain ⟨rfl, hV61, hF62, hE63⟩ := hp60
      replace hT := hT.trans (pf_call_eq hE63)
      change pm_J X 25 [(1, (0, y44)), (0, (3, 73))] [] 118 V59
      have hF64 := pm_ff.tr (pm_ff.rf (cs := [76, 77]) (fs := [(73, 14)]) (V := V0)) hF62 (by decide) (by decide)
      have e65 : V59 73 0 = 51 := by rw [hF62 73 0 (by decide) (by decide)]; exact e1
      have e66 : V59 73 1 = y35 := by rw [hF62 73 1 (by decide) (by decide)]; exact e36
      have e67 : V59 73 2 = y38 := by rw [hF62 73 2 (by decide) (by decide)]; exact e39
      refine pm_goto (tgt := 33) hC dX10_weighLearnt_25 (by decide) ?_
      exact pm_vret hC hR ⟨rfl, hV61, hF64, hT⟩ dX10_weighLearnt_33
set_option maxHeartbeats 4000000 in
set_option maxRecDepth 100000 in
theorem fD_X10_soundBetween_73  : pm_K 2 yX10_soundBetween cX10_soundBetween 5 (some .int) (fun av V => av = [(3, 73)] ∧ pm_ok 0 90 V) (fun _ V r V' => ∃ y, r = some (0, y) ∧ (0 ≤ y ∧ y ≤ 8) ∧ V = V' ∧ F_X10_soundBetween  V = (y, V)) := by
  refine pm_MT.of (by decide) ⟨Nat.le_refl _, by decide⟩ (fun av V h => by rw [h.1]; exact (by decide : pm_words [(3, 0)] ≤ 5)) ?_
  rintro X av V0 hC - hR ⟨rfl, hV0⟩
  change pm_J X 0 [(0, (3, 73))] [] 118 V0
  have hT := F_X10_soundBetween_eq  V0
  refine pm_iconst (v := 1) hC dX10_soundBetween_0 ?_
  refine pm_aload_n hC 0 (by decide) dX10_soundBetween_1 rfl ?_
  obtain ⟨y1, e2⟩ : ∃ y, V0 73 5 = y := ⟨_, rfl⟩
  have b3 := hV0.get 73 5 (lo := 1) (hi := 171) (by decide) (by decide) rfl
  rw [e2] at b3
  replace hT := hT.trans (pf_let_eq e2)
  refine pm_getf (v := y1) hC 73 fl_X10_24 rfl rfl (by decide) rfl e2 dX10_soundBetween_2 ?_
  refine pm_aload_n hC 0 (by decide) dX10_soundBetween_5 rfl ?_
  obtain ⟨y4, e5⟩ : ∃ y, V0 73 6 = y := ⟨_, rfl⟩
  have b6 := hV0.get 73 6 (lo := 1) (hi := 171) (by decide) (by decide) rfl
  rw [e5] at b6
  replace hT := hT.trans (pf_let_eq e5)
  refine pm_getf (v := y4) hC 73 fl_X10_27 rfl rfl (by decide) rfl e5 dX10_soundBetween_6 ?_
  refine pm_iadd hC dX10_soundBetween_9 ?_
  refine pm_mmax hC 4011 4012 1018 4013 ⟨by decide, by decide⟩ ⟨by omega, by omega⟩ (by decide) wL_X10_69 wS_mmax wI_math wC_mmax (Nat.le_of_ble_eq_true rfl) dX10_soundBetween_10 (fun y7 b8 => ?_)
  have he9 : pm_mx 1 (y1 + y4) = y7 := pm_mx_of b8
  replace b8 : 2 ≤ y7 ∧ y7 ≤ 342 ∧ 1 ≤ y7 ∧ (y1 + y4) ≤ y7 := ⟨by omega, by omega, b8.1, b8.2.1⟩
  replace hT := hT.trans (pf_let_eq he9)
  refine pm_istore_n (lv' := [(1, (0, y7)), (0, (3, 73))]) hC dX10_soundBetween_13 (by decide) rfl ?_
  refine pm_aload_n hC 1 (by decide) dX10_soundBetween_14 rfl ?_
  rcases hV0.get2 73 0 (lo := 45) (hi := 51) (by decide) (by decide) rfl with e10 | e10
  · skip
    replace hT := hT.trans (if_pos e10)
    refine pm_getf (v := 45) hC 73 fl_X10_59 rfl rfl (by decide) rfl e10 dX10_soundBetween_15 ?_
    have e11 : V0 45 1 = 46 := hV0.one 45 1 (by decide) (by decide) rfl
    refine pm_getf (v := 46) hC 45 fl_X10_82 rfl rfl (by decide) rfl e11 dX10_soundBetween_18 ?_
    refine pm_aload_n hC 1 (by decide) dX10_soundBetween_21 rfl ?_
    obtain ⟨y12, e13⟩ : ∃ y, V0 73 1 = y := ⟨_, rfl⟩
    have b14 := hV0.get 73 1 (lo := 0) (hi := 8) (by decide) (by decide) rfl
    rw [e13] at b14
    replace hT := hT.trans (pf_let_eq e13)
    refine pm_getf (v := y12) hC 73 fl_X10_9 rfl rfl (by decide) rfl e13 dX10_soundBetween_22 ?_
    obtain ⟨y15, e16⟩ : ∃ y, V0 46 (y12 : Int).toNat = y := ⟨_, rfl⟩
    replace hT := hT.trans (pf_let_eq e16)
    have b17 := hV0.get 46 (y12 : Int).toNat (lo := 0) (hi := 99) (by decide) (show _ < 9 by omega) rfl
    rw [e16] at b17
    refine pm_iaload (len := 9) (v := y15) hC 46 rfl rfl (by decide) ⟨by omega, by omega⟩ (by decide) e16 dX10_soundBetween_25 ?_
    refine pm_aload_n hC 1 (by decide) dX10_soundBetween_26 rfl ?_
    refine pm_getf (v := y4) hC 73 fl_X10_27 rfl rfl (by decide) rfl e5 dX10_soundBetween_27 ?_
    refine pm_imul hC dX10_soundBetween_30 ?_
    have b19 : 0 ≤ (y15 * y4) ∧ (y15 * y4) ≤ 16929 := pm_mulb (by omega) (by omega) (show y15 ≤ 99 by omega) (show y4 ≤ 171 by omega) (by decide)
    obtain ⟨y18, hey18⟩ : ∃ z, (y15 * y4) = z := ⟨_, rfl⟩
    rw [hey18] at b19 ⊢
    replace hT := hT.trans (pf_let_eq hey18)
    refine pm_aload_n hC 1 (by decide) dX10_soundBetween_31 rfl ?_
    refine pm_getf (v := 45) hC 73 fl_X10_59 rfl rfl (by decide) rfl e10 dX10_soundBetween_32 ?_
    refine pm_getf (v := 46) hC 45 fl_X10_82 rfl rfl (by decide) rfl e11 dX10_soundBetween_35 ?_
    refine pm_aload_n hC 1 (by decide) dX10_soundBetween_38 rfl ?_
    obtain ⟨y20, e21⟩ : ∃ y, V0 73 2 = y := ⟨_, rfl⟩
    have b22 := hV0.get 73 2 (lo := 0) (hi := 8) (by decide) (by decide) rfl
    rw [e21] at b22
    replace hT := hT.trans (pf_let_eq e21)
    refine pm_getf (v := y20) hC 73 fl_X10_15 rfl rfl (by decide) rfl e21 dX10_soundBetween_39 ?_
    obtain ⟨y23, e24⟩ : ∃ y, V0 46 (y20 : Int).toNat = y := ⟨_, rfl⟩
    replace hT := hT.trans (pf_let_eq e24)
    have b25 := hV0.get 46 (y20 : Int).toNat (lo := 0) (hi := 99) (by decide) (show _ < 9 by omega) rfl
    rw [e24] at b25
    refine pm_iaload (len := 9) (v := y23) hC 46 rfl rfl (by decide) ⟨by omega, by omega⟩ (by decide) e24 dX10_soundBetween_42 ?_
    refine pm_aload_n hC 1 (by decide) dX10_soundBetween_43 rfl ?_
    refine pm_getf (v := y1) hC 73 fl_X10_24 rfl rfl (by decide) rfl e2 dX10_soundBetween_44 ?_
    refine pm_imul hC dX10_soundBetween_47 ?_
    have b27 : 0 ≤ (y23 * y1) ∧ (y23 * y1) ≤ 16929 := pm_mulb (by omega) (by omega) (show y23 ≤ 99 by omega) (show y1 ≤ 171 by omega) (by decide)
    obtain ⟨y26, hey26⟩ : ∃ z, (y23 * y1) = z := ⟨_, rfl⟩
    rw [hey26] at b27 ⊢
    replace hT := hT.trans (pf_let_eq hey26)
    refine pm_iadd hC dX10_soundBetween_48 ?_
    refine pm_iload_n hC 0 dX10_soundBetween_49 rfl ?_
    refine pm_idiv hC ⟨by omega, by omega, by omega⟩ ⟨by omega, by omega, by omega⟩ dX10_soundBetween_50 ?_
    have b29 := pm_divb (x := (y18 + y26)) (y := y7) (by omega) (by omega)
    obtain ⟨y28, hey28⟩ : ∃ z, ((y18 + y26) / y7) = z := ⟨_, rfl⟩
    rw [hey28] at b29 ⊢
    replace hT := hT.trans (pf_let_eq hey28)
    refine pm_istore_n (lv' := [(2, (0, y28)), (1, (0, y7)), (0, (3, 73))]) hC dX10_soundBetween_51 (by decide) rfl ?_
    refine pm_iconst (v := 0) hC dX10_soundBetween_52 ?_
    refine pm_istore_n (lv' := [(3, (0, 0)), (2, (0, y28)), (1, (0, y7)), (0, (3, 73))]) hC dX10_soundBetween_53 (by decide) rfl ?_
    refine pm_iconst (v := 1) hC dX10_soundBetween_54 ?_
    refine pm_istore (lv' := [(4, (0, 1)), (3, (0, 0)), (2, (0, y28)), (1, (0, y7)), (0, (3, 73))]) hC dX10_soundBetween_55 (by decide) rfl ?_
    obtain ⟨B34, hB35, hT⟩ := pf_loop hT
    have L37 : ∀ (N39 : Nat) (x30 : Int) (x32 : Int), (0 ≤ x30 ∧ x30 ≤ 8) → (1 ≤ x32 ∧ x32 ≤ 9) → F_X10_soundBetween  V0 = pf_val ((0 : Int), V0) B34 (x30, x32) → (Int.toNat (9 - x32)) = N39 → pm_J X 57 [(0, (3, 73)), (1, (0, y7)), (2, (0, y28)), (3, (0, x30)), (4, (0, x32))] [] 118 V0 := by
      intro N39
      induction N39 using Nat.strongRecOn with
      | _ N39 ih40 =>
      intro x30 x32 b31 b33 hT hm38
      have hb36 := congrFun hB35 (x30, x32)
      refine pm_iload hC 4 dX10_soundBetween_57 rfl ?_
      refine pm_aload_n hC 0 (by decide) dX10_soundBetween_59 rfl ?_
      refine pm_getf (v := 45) hC 73 fl_X10_59 rfl rfl (by decide) rfl e10 dX10_soundBetween_60 ?_
      obtain ⟨y41, e42⟩ : ∃ y, V0 45 0 = y := ⟨_, rfl⟩
      have b43 := hV0.get 45 0 (lo := 0) (hi := 9) (by decide) (by decide) rfl
      rw [e42] at b43
      replace hb36 := hb36.trans (pf_let_eq e42)
      refine pm_getf (v := y41) hC 45 fl_X10_79 rfl rfl (by decide) rfl e42 dX10_soundBetween_63 ?_
      refine pm_icmp_ge (tgt := 118) hC ⟨by omega, by omega⟩ ⟨by omega, by omega⟩ dX10_soundBetween_66 (by decide) (fun c44 => ?_) (fun c44 => ?_)
      · skip
        replace hb36 := hb36.trans (if_pos c44)
        refine pm_iload_n hC 3 dX10_soundBetween_118 rfl ?_
        have hT := hT.trans (pf_val_inr hb36)
        exact pm_iret hC hR pm_nar0 ⟨x30, rfl, ⟨by omega, by omega⟩, rfl, hT⟩ dX10_soundBetween_119
      · skip
        replace hb36 := hb36.trans (if_neg (Int.not_le.mpr c44))
        refine pm_aload_n hC 0 (by decide) dX10_soundBetween_69 rfl ?_
        refine pm_iload hC 4 dX10_soundBetween_70 rfl ?_
        refine pm_iload_n hC 2 dX10_soundBetween_72 rfl ?_
        refine pm_aload_n hC 0 (by decide) dX10_soundBetween_73 rfl ?_
        refine pm_getf (v := 45) hC 73 fl_X10_59 rfl rfl (by decide) rfl e10 dX10_soundBetween_74 ?_
        have e45 : V0 45 2 = 47 := hV0.one 45 2 (by decide) (by decide) rfl
        refine pm_getf (v := 47) hC 45 fl_X10_93 rfl rfl (by decide) rfl e45 dX10_soundBetween_77 ?_
        refine pm_aload_n hC 0 (by decide) dX10_soundBetween_80 rfl ?_
        refine pm_getf (v := y12) hC 73 fl_X10_9 rfl rfl (by decide) rfl e13 dX10_soundBetween_81 ?_
        obtain ⟨y46, e47⟩ : ∃ y, V0 47 (y12 : Int).toNat = y := ⟨_, rfl⟩
        replace hb36 := hb36.trans (pf_let_eq e47)
        have b48 := hV0.get 47 (y12 : Int).toNat (lo := 0) (hi := 99) (by decide) (show _ < 9 by omega) rfl
        rw [e47] at b48
        refine pm_iaload (len := 9) (v := y46) hC 47 rfl rfl (by decide) ⟨by omega, by omega⟩ (by decide) e47 dX10_soundBetween_84 ?_
        refine pm_callV (ci := 10) (as := [(0, x32), (0, y28), (0, y46)]) (st := []) hC 73 (fD_X10_farFrom_73 x32 y28 y46 ⟨by omega, by omega⟩ ⟨by omega, by omega⟩ ⟨by omega, by omega⟩) lm_X10_96 li_X10_farFrom (by decide) (by decide) rfl rfl rfl (by decide) rfl rfl (Nat.le_of_ble_eq_true rfl) ⟨Nat.le_refl _, Or.inl rfl⟩ dX10_soundBetween_85 ⟨rfl, hV0⟩ (fun r49 V50 hp51 => ?_)
        obtain ⟨y52, rfl, b53, rfl, hE54⟩ := hp51
        replace hb36 := hb36.trans (pf_call_eq hE54)
        change pm_J X 88 [(0, (3, 73)), (1, (0, y7)), (2, (0, y28)), (3, (0, x30)), (4, (0, x32))] [(0, y52)] 118 V0
        refine pm_aload_n hC 0 (by decide) dX10_soundBetween_88 rfl ?_
        refine pm_iload_n hC 3 dX10_soundBetween_89 rfl ?_
        refine pm_iload_n hC 2 dX10_soundBetween_90 rfl ?_
        refine pm_aload_n hC 0 (by decide) dX10_soundBetween_91 rfl ?_
        refine pm_getf (v := 45) hC 73 fl_X10_59 rfl rfl (by decide) rfl e10 dX10_soundBetween_92 ?_
        refine pm_getf (v := 47) hC 45 fl_X10_93 rfl rfl (by decide) rfl e45 dX10_soundBetween_95 ?_
        refine pm_aload_n hC 0 (by decide) dX10_soundBetween_98 rfl ?_
        refine pm_getf (v := y12) hC 73 fl_X10_9 rfl rfl (by decide) rfl e13 dX10_soundBetween_99 ?_
        refine pm_iaload (len := 9) (v := y46) hC 47 rfl rfl (by decide) ⟨by omega, by omega⟩ (by decide) e47 dX10_soundBetween_102 ?_
        refine pm_callV (ci := 10) (as := [(0, x30), (0, y28), (0, y46)]) (st := [(0, y52)]) hC 73 (fD_X10_farFrom_73 x30 y28 y46 ⟨by omega, by omega⟩ ⟨by omega, by omega⟩ ⟨by omega, by omega⟩) lm_X10_96 li_X10_farFrom (by decide) (by decide) rfl rfl rfl (by decide) rfl rfl (Nat.le_of_ble_eq_true rfl) ⟨Nat.le_refl _, Or.inl rfl⟩ dX10_soundBetween_103 ⟨rfl, hV0⟩ (fun r55 V56 hp57 => ?_)
        obtain ⟨y58, rfl, b59, rfl, hE60⟩ := hp57
        replace hb36 := hb36.trans (pf_call_eq hE60)
        change pm_J X 106 [(0, (3, 73)), (1, (0, y7)), (2, (0, y28)), (3, (0, x30)), (4, (0, x32))] [(0, y58), (0, y52)] 118 V0
        refine pm_icmp_ge (tgt := 112) hC ⟨by omega, by omega⟩ ⟨by omega, by omega⟩ dX10_soundBetween_106 (by decide) (fun c61 => ?_) (fun c61 => ?_)
        · skip
          replace hb36 := hb36.trans (if_pos c61)
          obtain ⟨x62, ei63⟩ : ∃ y : Int, x32 + 1 = y := ⟨_, rfl⟩
          replace hb36 := hb36.trans (pf_let_eq ei63)
          refine pm_iinc (y := x62) (lv' := [(4, (0, x62)), (0, (3, 73)), (1, (0, y7)), (2, (0, y28)), (3, (0, x30))]) hC 4 dX10_soundBetween_112 (by decide) rfl ei63 rfl ?_
          refine pm_goto (tgt := 57) hC dX10_soundBetween_115 (by decide) ?_
          refine pm_lvsub [1, 2, 3, 4, 0] (lv' := [(0, (3, 73)), (1, (0, y7)), (2, (0, y28)), (3, (0, x30)), (4, (0, x62))]) rfl ?_
          exact ih40 _ (by omega) x30 x62 ⟨by omega, by omega⟩ ⟨by omega, by omega⟩ (hT.trans (pf_val_inl hb36)) rfl
        · skip
          replace hb36 := hb36.trans (if_neg (Int.not_le.mpr c61))
          refine pm_iload hC 4 dX10_soundBetween_109 rfl ?_
          refine pm_istore_n (lv' := [(3, (0, x32)), (0, (3, 73)), (1, (0, y7)), (2, (0, y28)), (4, (0, x32))]) hC dX10_soundBetween_111 (by decide) rfl ?_
          obtain ⟨x64, ei65⟩ : ∃ y : Int, x32 + 1 = y := ⟨_, rfl⟩
          replace hb36 := hb36.trans (pf_let_eq ei65)
          refine pm_iinc (y := x64) (lv' := [(4, (0, x64)), (3, (0, x32)), (0, (3, 73)), (1, (0, y7)), (2, (0, y28))]) hC 4 dX10_soundBetween_112 (by decide) rfl ei65 rfl ?_
          refine pm_goto (tgt := 57) hC dX10_soundBetween_115 (by decide) ?_
          refine pm_lvsub [2, 3, 4, 1, 0] (lv' := [(0, (3, 73)), (1, (0, y7)), (2, (0, y28)), (3, (0, x32)), (4, (0, x64))]) rfl ?_
          exact ih40 _ (by omega) x32 x64 ⟨by omega, by omega⟩ ⟨by omega, by omega⟩ (hT.trans (pf_val_inl hb36)) rfl
    refine pm_lvsub [4, 3, 2, 1, 0] (lv' := [(0, (3, 73)), (1, (0, y7)), (2, (0, y28)), (3, (0, 0)), (4, (0, 1))]) rfl ?_
    exact L37 _ 0 1 ⟨by decide, by decide⟩ ⟨by decide, by decide⟩ hT rfl
  · skip
    replace hT := hT.trans (if_neg (by rw [e10]; decide))
    refine pm_getf (v := 51) hC 73 fl_X10_59 rfl rfl (by decide) rfl e10 dX10_soundBetween_15 ?_
    have e66 : V0 51 1 = 52 := hV0.one 51 1 (by decide) (by decide) rfl
    refine pm_getf (v := 52) hC 51 fl_X10_82 rfl rfl (by decide) rfl e66 dX10_soundBetween_18 ?_
    refine pm_aload_n hC 1 (by decide) dX10_soundBetween_21 rfl ?_
    obtain ⟨y67, e68⟩ : ∃ y, V0 73 1 = y := ⟨_, rfl⟩
    have b69 := hV0.get 73 1 (lo := 0) (hi := 8) (by decide) (by decide) rfl
    rw [e68] at b69
    replace hT := hT.trans (pf_let_eq e68)
    refine pm_getf (v := y67) hC 73 fl_X10_9 rfl rfl (by decide) rfl e68 dX10_soundBetween_22 ?_
    obtain ⟨y70, e71⟩ : ∃ y, V0 52 (y67 : Int).toNat = y := ⟨_, rfl⟩
    replace hT := hT.trans (pf_let_eq e71)
    have b72 := hV0.get 52 (y67 : Int).toNat (lo := 0) (hi := 99) (by decide) (show _ < 9 by omega) rfl
    rw [e71] at b72
    refine pm_iaload (len := 9) (v := y70) hC 52 rfl rfl (by decide) ⟨by omega, by omega⟩ (by decide) e71 dX10_soundBetween_25 ?_
    refine pm_aload_n hC 1 (by decide) dX10_soundBetween_26 rfl ?_
    refine pm_getf (v := y4) hC 73 fl_X10_27 rfl rfl (by decide) rfl e5 dX10_soundBetween_27 ?_
    refine pm_imul hC dX10_soundBetween_30 ?_
    have b74 : 0 ≤ (y70 * y4) ∧ (y70 * y4) ≤ 16929 := pm_mulb (by omega) (by omega) (show y70 ≤ 99 by omega) (show y4 ≤ 171 by omega) (by decide)
    obtain ⟨y73, hey73⟩ : ∃ z, (y70 * y4) = z := ⟨_, rfl⟩
    rw [hey73] at b74 ⊢
    replace hT := hT.trans (pf_let_eq hey73)
    refine pm_aload_n hC 1 (by decide) dX10_soundBetween_31 rfl ?_
    refine pm_getf (v := 51) hC 73 fl_X10_59 rfl rfl (by decide) rfl e10 dX10_soundBetween_32 ?_
    refine pm_getf (v := 52) hC 51 fl_X10_82 rfl rfl (by decide) rfl e66 dX10_soundBetween_35 ?_
    refine pm_aload_n hC 1 (by decide) dX10_soundBetween_38 rfl ?_
    obtain ⟨y75, e76⟩ : ∃ y, V0 73 2 = y := ⟨_, rfl⟩
    have b77 := hV0.get 73 2 (lo := 0) (hi := 8) (by decide) (by decide) rfl
    rw [e76] at b77
    replace hT := hT.trans (pf_let_eq e76)
    refine pm_getf (v := y75) hC 73 fl_X10_15 rfl rfl (by decide) rfl e76 dX10_soundBetween_39 ?_
    obtain ⟨y78, e79⟩ : ∃ y, V0 52 (y75 : Int).toNat = y := ⟨_, rfl⟩
    replace hT := hT.trans (pf_let_eq e79)
    have b80 := hV0.get 52 (y75 : Int).toNat (lo := 0) (hi := 99) (by decide) (show _ < 9 by omega) rfl
    rw [e79] at b80
    refine pm_iaload (len := 9) (v := y78) hC 52 rfl rfl (by decide) ⟨by omega, by omega⟩ (by decide) e79 dX10_soundBetween_42 ?_
    refine pm_aload_n hC 1 (by decide) dX10_soundBetween_43 rfl ?_
    refine pm_getf (v := y1) hC 73 fl_X10_24 rfl rfl (by decide) rfl e2 dX10_soundBetween_44 ?_
    refine pm_imul hC dX10_soundBetween_47 ?_
    have b82 : 0 ≤ (y78 * y1) ∧ (y78 * y1) ≤ 16929 := pm_mulb (by omega) (by omega) (show y78 ≤ 99 by omega) (show y1 ≤ 171 by omega) (by decide)
    obtain ⟨y81, hey81⟩ : ∃ z, (y78 * y1) = z := ⟨_, rfl⟩
    rw [hey81] at b82 ⊢
    replace hT := hT.trans (pf_let_eq hey81)
    refine pm_iadd hC dX10_soundBetween_48 ?_
    refine pm_iload_n hC 0 dX10_soundBetween_49 rfl ?_
    refine pm_idiv hC ⟨by omega, by omega, by omega⟩ ⟨by omega, by omega, by omega⟩ dX10_soundBetween_50 ?_
    have b84 := pm_divb (x := (y73 + y81)) (y := y7) (by omega) (by omega)
    obtain ⟨y83, hey83⟩ : ∃ z, ((y73 + y81) / y7) = z := ⟨_, rfl⟩
    rw [hey83] at b84 ⊢
    replace hT := hT.trans (pf_let_eq hey83)
    refine pm_istore_n (lv' := [(2, (0, y83)), (1, (0, y7)), (0, (3, 73))]) hC dX10_soundBetween_51 (by decide) rfl ?_
    refine pm_iconst (v := 0) hC dX10_soundBetween_52 ?_
    refine pm_istore_n (lv' := [(3, (0, 0)), (2, (0, y83)), (1, (0, y7)), (0, (3, 73))]) hC dX10_soundBetween_53 (by decide) rfl ?_
    refine pm_iconst (v := 1) hC dX10_soundBetween_54 ?_
    refine pm_istore (lv' := [(4, (0, 1)), (3, (0, 0)), (2, (0, y83)), (1, (0, y7)), (0, (3, 73))]) hC dX10_soundBetween_55 (by decide) rfl ?_
    obtain ⟨B89, hB90, hT⟩ := pf_loop hT
    have L92 : ∀ (N94 : Nat) (x85 : Int) (x87 : Int), (0 ≤ x85 ∧ x85 ≤ 8) → (1 ≤ x87 ∧ x87 ≤ 9) → F_X10_soundBetween  V0 = pf_val ((0 : Int), V0) B89 (x85, x87) → (Int.toNat (9 - x87)) = N94 → pm_J X 57 [(0, (3, 73)), (1, (0, y7)), (2, (0, y83)), (3, (0, x85)), (4, (0, x87))] [] 118 V0 := by
      intro N94
      induction N94 using Nat.strongRecOn with
      | _ N94 ih95 =>
      intro x85 x87 b86 b88 hT hm93
      have hb91 := congrFun hB90 (x85, x87)
      refine pm_iload hC 4 dX10_soundBetween_57 rfl ?_
      refine pm_aload_n hC 0 (by decide) dX10_soundBetween_59 rfl ?_
      refine pm_getf (v := 51) hC 73 fl_X10_59 rfl rfl (by decide) rfl e10 dX10_soundBetween_60 ?_
      obtain ⟨y96, e97⟩ : ∃ y, V0 51 0 = y := ⟨_, rfl⟩
      have b98 := hV0.get 51 0 (lo := 0) (hi := 9) (by decide) (by decide) rfl
      rw [e97] at b98
      replace hb91 := hb91.trans (pf_let_eq e97)
      refine pm_getf (v := y96) hC 51 fl_X10_79 rfl rfl (by decide) rfl e97 dX10_soundBetween_63 ?_
      refine pm_icmp_ge (tgt := 118) hC ⟨by omega, by omega⟩ ⟨by omega, by omega⟩ dX10_soundBetween_66 (by decide) (fun c99 => ?_) (fun c99 => ?_)
      · skip
        replace hb91 := hb91.trans (if_pos c99)
        refine pm_iload_n hC 3 dX10_soundBetween_118 rfl ?_
        have hT := hT.trans (pf_val_inr hb91)
        exact pm_iret hC hR pm_nar0 ⟨x85, rfl, ⟨by omega, by omega⟩, rfl, hT⟩ dX10_soundBetween_119
      · skip
        replace hb91 := hb91.trans (if_neg (Int.not_le.mpr c99))
        refine pm_aload_n hC 0 (by decide) dX10_soundBetween_69 rfl ?_
        refine pm_iload hC 4 dX10_soundBetween_70 rfl ?_
        refine pm_iload_n hC 2 dX10_soundBetween_72 rfl ?_
        refine pm_aload_n hC 0 (by decide) dX10_soundBetween_73 rfl ?_
        refine pm_getf (v := 51) hC 73 fl_X10_59 rfl rfl (by decide) rfl e10 dX10_soundBetween_74 ?_
        have e100 : V0 51 2 = 53 := hV0.one 51 2 (by decide) (by decide) rfl
        refine pm_getf (v := 53) hC 51 fl_X10_93 rfl rfl (by decide) rfl e100 dX10_soundBetween_77 ?_
        refine pm_aload_n hC 0 (by decide) dX10_soundBetween_80 rfl ?_
        refine pm_getf (v := y67) hC 73 fl_X10_9 rfl rfl (by decide) rfl e68 dX10_soundBetween_81 ?_
        obtain ⟨y101, e102⟩ : ∃ y, V0 53 (y67 : Int).toNat = y := ⟨_, rfl⟩
        replace hb91 := hb91.trans (pf_let_eq e102)
        have b103 := hV0.get 53 (y67 : Int).toNat (lo := 0) (hi := 99) (by decide) (show _ < 9 by omega) rfl
        rw [e102] at b103
        refine pm_iaload (len := 9) (v := y101) hC 53 rfl rfl (by decide) ⟨by omega, by omega⟩ (by decide) e102 dX10_soundBetween_84 ?_
        refine pm_callV (ci := 10) (as := [(0, x87), (0, y83), (0, y101)]) (st := []) hC 73 (fD_X10_farFrom_73 x87 y83 y101 ⟨by omega, by omega⟩ ⟨by omega, by omega⟩ ⟨by omega, by omega⟩) lm_X10_96 li_X10_farFrom (by decide) (by decide) rfl rfl rfl (by decide) rfl rfl (Nat.le_of_ble_eq_true rfl) ⟨Nat.le_refl _, Or.inl rfl⟩ dX10_soundBetween_85 ⟨rfl, hV0⟩ (fun r104 V105 hp106 => ?_)
        obtain ⟨y107, rfl, b108, rfl, hE109⟩ := hp106
        replace hb91 := hb91.trans (pf_call_eq hE109)
        change pm_J X 88 [(0, (3, 73)), (1, (0, y7)), (2, (0, y83)), (3, (0, x85)), (4, (0, x87))] [(0, y107)] 118 V0
        refine pm_aload_n hC 0 (by decide) dX10_soundBetween_88 rfl ?_
        refine pm_iload_n hC 3 dX10_soundBetween_89 rfl ?_
        refine pm_iload_n hC 2 dX10_soundBetween_90 rfl ?_
        refine pm_aload_n hC 0 (by decide) dX10_soundBetween_91 rfl ?_
        refine pm_getf (v := 51) hC 73 fl_X10_59 rfl rfl (by decide) rfl e10 dX10_soundBetween_92 ?_
        refine pm_getf (v := 53) hC 51 fl_X10_93 rfl rfl (by decide) rfl e100 dX10_soundBetween_95 ?_
        refine pm_aload_n hC 0 (by decide) dX10_soundBetween_98 rfl ?_
        refine pm_getf (v := y67) hC 73 fl_X10_9 rfl rfl (by decide) rfl e68 dX10_soundBetween_99 ?_
        refine pm_iaload (len := 9) (v := y101) hC 53 rfl rfl (by decide) ⟨by omega, by omega⟩ (by decide) e102 dX10_soundBetween_102 ?_
        refine pm_callV (ci := 10) (as := [(0, x85), (0, y83), (0, y101)]) (st := [(0, y107)]) hC 73 (fD_X10_farFrom_73 x85 y83 y101 ⟨by omega, by omega⟩ ⟨by omega, by omega⟩ ⟨by omega, by omega⟩) lm_X10_96 li_X10_farFrom (by decide) (by decide) rfl rfl rfl (by decide) rfl rfl (Nat.le_of_ble_eq_true rfl) ⟨Nat.le_refl _, Or.inl rfl⟩ dX10_soundBetween_103 ⟨rfl, hV0⟩ (fun r110 V111 hp112 => ?_)
        obtain ⟨y113, rfl, b114, rfl, hE115⟩ := hp112
        replace hb91 := hb91.trans (pf_call_eq hE115)
        change pm_J X 106 [(0, (3, 73)), (1, (0, y7)), (2, (0, y83)), (3, (0, x85)), (4, (0, x87))] [(0, y113), (0, y107)] 118 V0
        refine pm_icmp_ge (tgt := 112) hC ⟨by omega, by omega⟩ ⟨by omega, by omega⟩ dX10_soundBetween_106 (by decide) (fun c116 => ?_) (fun c116 => ?_)
        · skip
          replace hb91 := hb91.trans (if_pos c116)
          obtain ⟨x117, ei118⟩ : ∃ y : Int, x87 + 1 = y := ⟨_, rfl⟩
          replace hb91 := hb91.trans (pf_let_eq ei118)
          refine pm_iinc (y := x117) (lv' := [(4, (0, x117)), (0, (3, 73)), (1, (0, y7)), (2, (0, y83)), (3, (0, x85))]) hC 4 dX10_soundBetween_112 (by decide) rfl ei118 rfl ?_
          refine pm_goto (tgt := 57) hC dX10_soundBetween_115 (by decide) ?_
          refine pm_lvsub [1, 2, 3, 4, 0] (lv' := [(0, (3, 73)), (1, (0, y7)), (2, (0, y83)), (3, (0, x85)), (4, (0, x117))]) rfl ?_
          exact ih95 _ (by omega) x85 x117 ⟨by omega, by omega⟩ ⟨by omega, by omega⟩ (hT.trans (pf_val_inl hb91)) rfl
        · skip
          replace hb91 := hb91.trans (if_neg (Int.not_le.mpr c116))
          refine pm_iload hC 4 dX10_soundBetween_109 rfl ?_
          refine pm_istore_n (lv' := [(3, (0, x87)), (0, (3, 73)), (1, (0, y7)), (2, (0, y83)), (4, (0, x87))]) hC dX10_soundBetween_111 (by decide) rfl ?_
          obtain ⟨x119, ei120⟩ : ∃ y : Int, x87 + 1 = y := ⟨_, rfl⟩
          replace hb91 := hb91.trans (pf_let_eq ei120)
          refine pm_iinc (y := x119) (lv' := [(4, (0, x119)), (3, (0, x87)), (0, (3, 73)), (1, (0, y7)), (2, (0, y83))]) hC 4 dX10_soundBetween_112 (by decide) rfl ei120 rfl ?_
          refine pm_goto (tgt := 57) hC dX10_soundBetween_115 (by decide) ?_
          refine pm_lvsub [2, 3, 4, 1, 0] (lv' := [(0, (3, 73)), (1, (0, y7)), (2, (0, y83)), (3, (0, x87)), (4, (0, x119))]) rfl ?_
          exact ih95 _ (by omega) x87 x119 ⟨by omega, by omega⟩ ⟨by omega, by omega⟩ (hT.trans (pf_val_inl hb91)) rfl
    refine pm_lvsub [4, 3, 2, 1, 0] (lv' := [(0, (3, 73)), (1, (0, y7)), (2, (0, y83)), (3, (0, 0)), (4, (0, 1))]) rfl ?_
    exact L92 _ 0 1 ⟨by decide, by decide⟩ ⟨by decide, by decide⟩ hT rfl
set_option maxHeartbeats 4000000 in
set_option maxRecDepth 100000 in
theorem fD_X10_weigh_73 (a1 : Int) (h0 : (-2147483648) ≤ a1 ∧ a1 ≤ 2147483647) : pm_K 4 yX10_weigh cX10_weigh 2 none (fun av V => av = [(3, 73), (0, a1)] ∧ pm_ok 0 90 V) (fun _ V r V' => r = none ∧ pm_ok 0 90 V' ∧ pm_ff [76, 77] [(73, 14)] V V' ∧ F_X10_weigh a1 V = (0, V')) := by
  refine pm_MT.of (by decide) ⟨Nat.le_refl _, by decide⟩ (fun av V h => by rw [h.1]; exact (by decide : pm_words [(3, 0), (0, 0)] ≤ 2)) ?_
  rintro X av V0 hC - hR ⟨rfl, hV0⟩
  change pm_J X 0 [(0, (3, 73)), (1, (0, a1))] [] 118 V0
  have hT := F_X10_weigh_eq a1 V0
  refine pm_iload_n hC 1 dX10_weigh_0 rfl ?_
  rcases (show (a1 < 1 ∨ 6 < a1) ∨ a1 = (1 : Int) ∨ a1 = (2 : Int) ∨ a1 = (3 : Int) ∨ a1 = (4 : Int) ∨ a1 = (5 : Int) ∨ a1 = (6 : Int) by omega) with c1 | c1 | c1 | c1 | c1 | c1 | c1
  · skip
    refine pm_tableOut (tgt := 86) hC ⟨by omega, by omega⟩ dX10_weigh_1 c1 (by decide) ?_
    replace hT := hT.trans (if_pos c1)
    refine pm_aload_n hC 0 (by decide) dX10_weigh_86 rfl ?_
    refine pm_callV (ci := 10) (as := []) (st := []) hC 73 fD_X10_weighVoice_73 lm_X10_126 li_X10_weighVoice (by decide) (by decide) rfl rfl rfl (by decide) rfl rfl (Nat.le_of_ble_eq_true rfl) ⟨Nat.le_refl _, Or.inl rfl⟩ dX10_weigh_87 ⟨rfl, hV0⟩ (fun r2 V3 hp4 => ?_)
    obtain ⟨rfl, hV5, hF6, hE7⟩ := hp4
    replace hT := hT.trans (pf_call_eq hE7)
    change pm_J X 90 [(0, (3, 73)), (1, (0, a1))] [] 118 V3
    have hF8 := pm_ff.tr (pm_ff.rf (cs := [76, 77]) (fs := [(73, 14)]) (V := V0)) hF6 (by decide) (by decide)
    exact pm_vret hC hR ⟨rfl, hV5, hF8, hT⟩ dX10_weigh_90
  · skip
    refine pm_tableIn (tgt := 40) (off := 39) hC ⟨by omega, by omega⟩ dX10_weigh_1 (by omega) (by omega) (by rw [c1]; rfl) (by decide) ?_
    replace hT := hT.trans (if_neg (by omega))
    replace hT := hT.trans (if_pos c1)
    refine pm_aload_n hC 0 (by decide) dX10_weigh_40 rfl ?_
    refine pm_callV (ci := 10) (as := []) (st := []) hC 73 fD_X10_weighFace_73 lm_X10_103 li_X10_weighFace (by decide) (by decide) rfl rfl rfl (by decide) rfl rfl (Nat.le_of_ble_eq_true rfl) ⟨Nat.le_refl _, Or.inl rfl⟩ dX10_weigh_41 ⟨rfl, hV0⟩ (fun r9 V10 hp11 => ?_)
    obtain ⟨rfl, hV12, hF13, hE14⟩ := hp11
    replace hT := hT.trans (pf_call_eq hE14)
    change pm_J X 44 [(0, (3, 73)), (1, (0, a1))] [] 118 V10
    have hF15 := pm_ff.tr (pm_ff.rf (cs := [76, 77]) (fs := [(73, 14)]) (V := V0)) hF13 (by decide) (by decide)
    refine pm_goto (tgt := 90) hC dX10_weigh_44 (by decide) ?_
    exact pm_vret hC hR ⟨rfl, hV12, hF15, hT⟩ dX10_weigh_90
  · skip
    refine pm_tableIn (tgt := 47) (off := 46) hC ⟨by omega, by omega⟩ dX10_weigh_1 (by omega) (by omega) (by rw [c1]; rfl) (by decide) ?_
    replace hT := hT.trans (if_neg (by omega))
    replace hT := hT.trans (if_neg (by omega))
    replace hT := hT.trans (if_pos c1)
    refine pm_aload_n hC 0 (by decide) dX10_weigh_47 rfl ?_
    refine pm_callV (ci := 10) (as := []) (st := []) hC 73 fD_X10_weighSurer_73 lm_X10_106 li_X10_weighSurer (by decide) (by decide) rfl rfl rfl (by decide) rfl rfl (Nat.le_of_ble_eq_true rfl) ⟨Nat.le_refl _, Or.inl rfl⟩ dX10_weigh_48 ⟨rfl, hV0⟩ (fun r16 V17 hp18 => ?_)
    obtain ⟨rfl, hV19, hF20, hE21⟩ := hp18
    replace hT := hT.trans (pf_call_eq hE21)
    change pm_J X 51 [(0, (3, 73)), (1, (0, a1))] [] 118 V17
    have hF22 := pm_ff.tr (pm_ff.rf (cs := [76, 77]) (fs := [(73, 14)]) (V := V0)) hF20 (by decide) (by decide)
    refine pm_goto (tgt := 90) hC dX10_weigh_51 (by decide) ?_
    exact pm_vret hC hR ⟨rfl, hV19, hF22, hT⟩ dX10_weigh_90
  · skip
    refine pm_tableIn (tgt := 54) (off := 53) hC ⟨by omega, by omega⟩ dX10_weigh_1 (by omega) (by omega) (by rw [c1]; rfl) (by decide) ?_
    replace hT := hT.trans (if_neg (by omega))
    replace hT := hT.trans (if_neg (by omega))
    replace hT := hT.trans (if_neg (by omega))
    replace hT := hT.trans (if_pos c1)
    refine pm_aload_n hC 0 (by decide) dX10_weigh_54 rfl ?_
    refine pm_callV (ci := 10) (as := []) (st := []) hC 73 fD_X10_weighOne_73 lm_X10_109 li_X10_weighOne (by decide) (by decide) rfl rfl rfl (by decide) rfl rfl (Nat.le_of_ble_eq_true rfl) ⟨Nat.le_refl _, Or.inl rfl⟩ dX10_weigh_55 ⟨rfl, hV0⟩ (fun r23 V24 hp25 => ?_)
    obtain ⟨rfl, hV26, hF27, hE28⟩ := hp25
    replace hT := hT.trans (pf_call_eq hE28)
    change pm_J X 58 [(0, (3, 73)), (1, (0, a1))] [] 118 V24
    have hF29 := pm_ff.tr (pm_ff.rf (cs := [76, 77]) (fs := [(73, 14)]) (V := V0)) hF27 (by decide) (by decide)
    refine pm_goto (tgt := 90) hC dX10_weigh_58 (by decide) ?_
    exact pm_vret hC hR ⟨rfl, hV26, hF29, hT⟩ dX10_weigh_90
  · skip
    refine pm_tableIn (tgt := 61) (off := 60) hC ⟨by omega, by omega⟩ dX10_weigh_1 (by omega) (by omega) (by rw [c1]; rfl) (by decide) ?_
    replace hT := hT.trans (if_neg (by omega))
    replace hT := hT.trans (if_neg (by omega))
    replace hT := hT.trans (if_neg (by omega))
    replace hT := hT.trans (if_neg (by omega))
    replace hT := hT.trans (if_pos c1)
    refine pm_aload_n hC 0 (by decide) dX10_weigh_61 rfl ?_
    refine pm_callV (ci := 10) (as := []) (st := []) hC 73 fD_X10_weighOdds_73 lm_X10_112 li_X10_weighOdds (by decide) (by decide) rfl rfl rfl (by decide) rfl rfl (Nat.le_of_ble_eq_true rfl) ⟨Nat.le_refl _, Or.inl rfl⟩ dX10_weigh_62 ⟨rfl, hV0⟩ (fun r30 V31 hp32 => ?_)
    obtain ⟨rfl, hV33, hF34, hE35⟩ := hp32
    replace hT := hT.trans (pf_call_eq hE35)
    change pm_J X 65 [(0, (3, 73)), (1, (0, a1))] [] 118 V31
    have hF36 := pm_ff.tr (pm_ff.rf (cs := [76, 77]) (fs := [(73, 14)]) (V := V0)) hF34 (by decide) (by decide)
    refine pm_goto (tgt := 90) hC dX10_weigh_65 (by decide) ?_
    exact pm_vret hC hR ⟨rfl, hV33, hF36, hT⟩ dX10_weigh_90
  · skip
    refine pm_tableIn (tgt := 68) (off := 67) hC ⟨by omega, by omega⟩ dX10_weigh_1 (by omega) (by omega) (by rw [c1]; rfl) (by decide) ?_
    replace hT := hT.trans (if_neg (by omega))
    replace hT := hT.trans (if_neg (by omega))
    replace hT := hT.trans (if_neg (by omega))
    replace hT := hT.trans (if_neg (by omega))
    replace hT := hT.trans (if_neg (by omega))
    replace hT := hT.trans (if_pos c1)
    refine pm_aload_n hC 0 (by decide) dX10_weigh_68 rfl ?_
    refine pm_callV (ci := 10) (as := []) (st := []) hC 73 fD_X10_weighLearnt_73 lm_X10_115 li_X10_weighLearnt (by decide) (by decide) rfl rfl rfl (by decide) rfl rfl (Nat.le_of_ble_eq_true rfl) ⟨Nat.le_refl _, Or.inl rfl⟩ dX10_weigh_69 ⟨rfl, hV0⟩ (fun r37 V38 hp39 => ?_)
    obtain ⟨rfl, hV40, hF41, hE42⟩ := hp39
    replace hT := hT.trans (pf_call_eq hE42)
    change pm_J X 72 [(0, (3, 73)), (1, (0, a1))] [] 118 V38
    have hF43 := pm_ff.tr (pm_ff.rf (cs := [76, 77]) (fs := [(73, 14)]) (V := V0)) hF41 (by decide) (by decide)
    refine pm_goto (tgt := 90) hC dX10_weigh_72 (by decide) ?_
    exact pm_vret hC hR ⟨rfl, hV40, hF43, hT⟩ dX10_weigh_90
  · skip
    refine pm_tableIn (tgt := 75) (off := 74) hC ⟨by omega, by omega⟩ dX10_weigh_1 (by omega) (by omega) (by rw [c1]; rfl) (by decide) ?_
    replace hT := hT.trans (if_neg (by omega))
    replace hT := hT.trans (if_neg (by omega))
    replace hT := hT.trans (if_neg (by omega))
    replace hT := hT.trans (if_neg (by omega))
    replace hT := hT.trans (if_neg (by omega))
    replace hT := hT.trans (if_neg (by omega))
    replace hT := hT.trans (if_pos c1)
    refine pm_aload_n hC 0 (by decide) dX10_weigh_75 rfl ?_
    refine pm_aload_n hC 0 (by decide) dX10_weigh_76 rfl ?_
    refine pm_callV (ci := 10) (as := []) (st := [(3, 73)]) hC 73 fD_X10_soundBetween_73 lm_X10_118 li_X10_soundBetween (by decide) (by decide) rfl rfl rfl (by decide) rfl rfl (Nat.le_of_ble_eq_true rfl) ⟨Nat.le_refl _, Or.inl rfl⟩ dX10_weigh_77 ⟨rfl, hV0⟩ (fun r44 V45 hp46 => ?_)
    obtain ⟨y47, rfl, b48, rfl, hE49⟩ := hp46
    replace hT := hT.trans (pf_call_eq hE49)
    change pm_J X 80 [(0, (3, 73)), (1, (0, a1))] [(0, y47), (3, 73)] 118 V0
    refine pm_callV (ci := 10) (as := [(0, y47)]) (st := []) hC 73 (fD_X10_weighSingle_73 y47 ⟨by omega, by omega⟩) lm_X10_122 li_X10_weighSingle (by decide) (by decide) rfl rfl rfl (by decide) rfl rfl (Nat.le_of_ble_eq_true rfl) ⟨Nat.le_refl _, Or.inl rfl⟩ dX10_weigh_80 ⟨rfl, hV0⟩ (fun r50 V51 hp52 => ?_)
    obtain ⟨rfl, hV53, hF54, hE55⟩ := hp52
    replace hT := hT.trans (pf_call_eq hE55)
    change pm_J X 83 [(0, (3, 73)), (1, (0, a1))] [] 118 V51
    have hF56 := pm_ff.tr (pm_ff.rf (cs := [76, 77]) (fs := [(73, 14)]) (V := V0)) hF54 (by decide) (by decide)
    refine pm_goto (tgt := 90) hC dX10_weigh_83 (by decide) ?_
    exact pm_vret hC hR ⟨rfl, hV53, hF56, hT⟩ dX10_weigh_90
set_option maxHeartbeats 4000000 in
set_option maxRecDepth 100000 in
theorem fD_X11_weighs_0 (a1 a2 a3 a4 : Int) (h0 : (-2147483648) ≤ a1 ∧ a1 ≤ 2147483647) (h1 : (-2147483648) ≤ a2 ∧ a2 ≤ 2147483647) (h2 : (-2147483648) ≤ a3 ∧ a3 ≤ 2147483647) (h3 : (-2147483648) ≤ a4 ∧ a4 ≤ 2147483647) : pm_K 5 yX11_weighs cX11_weighs 5 (some .boolean) (fun av V => av = [(3, 0), (0, a1), (0, a2), (0, a3), (0, a4)] ∧ pm_ok 0 90 V) (fun _ V r V' => ∃ y, r = some (0, y) ∧ (0 ≤ y ∧ y ≤ 1 ∧ (y = 1 → (0 ≤ a1 ∧ a1 ≤ 6 ∧ 0 ≤ a2 ∧ a2 ≤ 999 ∧ 0 ≤ a3 ∧ a3 ≤ 99 ∧ (-99) ≤ a4 ∧ a4 ≤ 99 ∧ a2 % 10 ≤ 8 ∧ a2 / 10 % 10 ≤ 8))) ∧ pm_ok 0 90 V' ∧ pm_ff [74, 75, 76, 77] [(73, 0), (73, 1), (73, 2), (73, 3), (73, 4), (73, 5), (73, 6), (73, 7), (73, 10), (73, 11), (73, 12), (73, 14)] V V' ∧ F_X11_weighs a1 a2 a3 a4 V = (y, V')) := by
  refine pm_MT.of (by decide) ⟨Nat.le_refl _, by decide⟩ (fun av V h => by rw [h.1]; exact (by decide : pm_words [(3, 0), (0, 0), (0, 0), (0, 0), (0, 0)] ≤ 5)) ?_
  rintro X av V0 hC - hR ⟨rfl, hV0⟩
  change pm_J X 0 [(0, (3, 0)), (1, (0, a1)), (2, (0, a2)), (3, (0, a3)), (4, (0, a4))] [] 118 V0
  have hT := F_X11_weighs_eq a1 a2 a3 a4 V0
  refine pm_iload_n hC 1 dX11_weighs_0 rfl ?_
  refine pm_callS (as := [(0, a1)]) (st := []) hC (fD_X11_isLaw a1 ⟨by omega, by omega⟩) lm_X11_262 ls_X11_isLaw (by decide) (by decide) rfl rfl (Nat.le_of_ble_eq_true rfl) ⟨Nat.le_refl _, Or.inl rfl⟩ dX11_weighs_1 ⟨rfl, hV0⟩ (fun r1 V2 hp3 => ?_)
  obtain ⟨y4, rfl, b5, rfl, hE6⟩ := hp3
  replace hT := hT.trans (pf_call_eq hE6)
  change pm_J X 4 [(0, (3, 0)), (1, (0, a1)), (2, (0, a2)), (3, (0, a3)), (4, (0, a4))] [(0, y4)] 118 V0
  refine pm_if_eq (tgt := 18) hC ⟨by omega, by omega⟩ dX11_weighs_4 (by decide) (fun c7 => ?_) (fun c7 => ?_)
  · skip
    replace hT := hT.trans (if_pos c7)
    refine pm_iconst (v := 0) hC dX11_weighs_18 ?_
    exact pm_iret hC hR (pm_narZ (by omega)) ⟨0, rfl, ⟨by omega, by omega, by omega⟩, hV0, (pm_ff.rf (cs := [74, 75, 76, 77]) (fs := [(73, 0), (73, 1), (73, 2), (73, 3), (73, 4), (73, 5), (73, 6), (73, 7), (73, 10), (73, 11), (73, 12), (73, 14)]) (V := V0)), hT⟩ dX11_weighs_19
  · skip
    replace hT := hT.trans (if_neg c7)
    refine pm_aload_n hC 0 (by decide) dX11_weighs_7 rfl ?_
    refine pm_iload_n hC 2 dX11_weighs_8 rfl ?_
    refine pm_iload_n hC 3 dX11_weighs_9 rfl ?_
    refine pm_iload hC 4 dX11_weighs_10 rfl ?_
    refine pm_callV (ci := 11) (as := [(0, a2), (0, a3), (0, a4)]) (st := []) hC 0 (fD_X11_isTrial_0 a2 a3 a4 ⟨by omega, by omega⟩ ⟨by omega, by omega⟩ ⟨by omega, by omega⟩) lm_X11_225 li_X11_isTrial (by decide) (by decide) rfl rfl rfl (by decide) rfl rfl (Nat.le_of_ble_eq_true rfl) ⟨Nat.le_refl _, Or.inl rfl⟩ dX11_weighs_12 ⟨rfl, hV0⟩ (fun r8 V9 hp10 => ?_)
    obtain ⟨y11, rfl, b12, rfl, hE13⟩ := hp10
    replace hT := hT.trans (pf_call_eq hE13)
    change pm_J X 15 [(0, (3, 0)), (1, (0, a1)), (2, (0, a2)), (3, (0, a3)), (4, (0, a4))] [(0, y11)] 118 V0
    refine pm_if_ne (tgt := 20) hC ⟨by omega, by omega⟩ dX11_weighs_15 (by decide) (fun c14 => ?_) (fun c14 => ?_)
    · skip
      replace hT := hT.trans (if_pos c14)
      refine pm_aload_n hC 0 (by decide) dX11_weighs_20 rfl ?_
      refine pm_iload_n hC 2 dX11_weighs_21 rfl ?_
      refine pm_iload_n hC 3 dX11_weighs_22 rfl ?_
      refine pm_iload hC 4 dX11_weighs_23 rfl ?_
      refine pm_callV (ci := 11) (as := [(0, a2), (0, a3), (0, a4)]) (st := []) hC 0 (fD_X11_pose_0 a2 a3 a4 ⟨by omega, by omega⟩ ⟨by omega, by omega⟩ ⟨by omega, by omega⟩ (by omega)) lm_X11_229 li_X11_pose (by decide) (by decide) rfl rfl rfl (by decide) rfl rfl (Nat.le_of_ble_eq_true rfl) ⟨Nat.le_refl _, Or.inl rfl⟩ dX11_weighs_25 ⟨rfl, hV0⟩ (fun r15 V16 hp17 => ?_)
      obtain ⟨rfl, hV18, hF19, hE20⟩ := hp17
      replace hT := hT.trans (pf_call_eq hE20)
      change pm_J X 28 [(0, (3, 0)), (1, (0, a1)), (2, (0, a2)), (3, (0, a3)), (4, (0, a4))] [] 118 V16
      have hF21 := pm_ff.tr (pm_ff.rf (cs := [74, 75, 76, 77]) (fs := [(73, 0), (73, 1), (73, 2), (73, 3), (73, 4), (73, 5), (73, 6), (73, 7), (73, 10), (73, 11), (73, 12), (73, 14)]) (V := V0)) hF19 (by decide) (by decide)
      refine pm_aload_n hC 0 (by decide) dX11_weighs_28 rfl ?_
      have e22 : V16 0 5 = 73 := hV18.one 0 5 (by decide) (by decide) rfl
      refine pm_getf (v := 73) hC 0 fl_X11_75 rfl rfl (by decide) rfl e22 dX11_weighs_29 ?_
      refine pm_iload_n hC 1 dX11_weighs_32 rfl ?_
      refine pm_callV (ci := 10) (as := [(0, a1)]) (st := []) hC 73 (fD_X10_weigh_73 a1 ⟨by omega, by omega⟩) lm_X11_294 li_X10_weigh (by decide) (by decide) rfl rfl rfl (by decide) rfl rfl (Nat.le_of_ble_eq_true rfl) ⟨Nat.le_refl _, Or.inl rfl⟩ dX11_weighs_33 ⟨rfl, hV18⟩ (fun r23 V24 hp25 => ?_)
      obtain ⟨rfl, hV26, hF27, hE28⟩ := hp25
      replace hT := hT.trans (pf_call_eq hE28)
      change pm_J X 36 [(0, (3, 0)), (1, (0, a1)), (2, (0, a2)), (3, (0, a3)), (4, (0, a4))] [] 118 V24
      have hF29 := pm_ff.tr hF21 hF27 (by decide) (by decide)
      have e30 : V24 0 5 = 73 := by rw [hF27 0 5 (by decide) (by decide)]; exact e22
      refine pm_iconst (v := 1) hC dX11_weighs_36 ?_
      exact pm_iret hC hR (pm_narZ (by omega)) ⟨1, rfl, ⟨by omega, by omega, by omega⟩, hV26, hF29, hT⟩ dX11_weighs_37
    · skip
      replace hT := hT.trans (if_neg (fun q => q c14))
      refine pm_iconst (v := 0) hC dX11_weighs_18 ?_
      exact pm_iret hC hR (pm_narZ (by omega)) ⟨0, rfl, ⟨by omega, by omega, by omega⟩, hV0, (pm_ff.rf (cs := [74, 75, 76, 77]) (fs := [(73, 0), (73, 1), (73, 2), (73, 3), (73, 4), (73, 5), (73, 6), (73, 7), (73, 10), (73, 11), (73, 12), (73, 14)]) (V := V0)), hT⟩ dX11_weighs_19
set_option maxHeartbeats 4000000 in
set_option maxRecDepth 100000 in
theorem fD_X11_weight_0 (a1 a2 a3 a4 a5 : Int) (h0 : (-2147483648) ≤ a1 ∧ a1 ≤ 2147483647) (h1 : (-2147483648) ≤ a2 ∧ a2 ≤ 2147483647) (h2 : (-2147483648) ≤ a3 ∧ a3 ≤ 2147483647) (h3 : (-2147483648) ≤ a4 ∧ a4 ≤ 2147483647) (h4 : (-2147483648) ≤ a5 ∧ a5 ≤ 2147483647) : pm_K 6 yX11_weight cX11_weight 7 (some .int) (fun av V => av = [(3, 0), (0, a1), (0, a2), (0, a3), (0, a4), (0, a5)] ∧ pm_ok 0 90 V) (fun _ V r V' => ∃ y, r = some (0, y) ∧ ((-2147483648) ≤ y ∧ y ≤ 2147483647) ∧ pm_ok 0 90 V' ∧ pm_ff [74, 75, 76, 77] [(73, 0), (73, 1), (73, 2), (73, 3), (73, 4), (73, 5), (73, 6), (73, 7), (73, 10), (73, 11), (73, 12), (73, 14)] V V' ∧ F_X11_weight a1 a2 a3 a4 a5 V = (y, V')) := by
  refine pm_MT.of (by decide) ⟨Nat.le_refl _, by decide⟩ (fun av V h => by rw [h.1]; exact (by decide : pm_words [(3, 0), (0, 0), (0, 0), (0, 0), (0, 0), (0, 0)] ≤ 7)) ?_
  rintro X av V0 hC - hR ⟨rfl, hV0⟩
  change pm_J X 0 [(0, (3, 0)), (1, (0, a1)), (2, (0, a2)), (3, (0, a3)), (4, (0, a4)), (5, (0, a5))] [] 118 V0
  have hT := F_X11_weight_eq a1 a2 a3 a4 a5 V0
  refine pm_iload hC 5 dX11_weight_0 rfl ?_
  refine pm_iconst (v := (-1)) hC dX11_weight_2 ?_
  refine pm_icmp_eq (tgt := 15) hC ⟨by omega, by omega⟩ ⟨by decide, by decide⟩ dX11_weight_3 (by decide) (fun c1 => ?_) (fun c1 => ?_)
  · skip
    replace hT := hT.trans (if_pos c1)
    refine pm_iconst (v := 1) hC dX11_weight_15 ?_
    refine pm_goto (tgt := 20) hC dX11_weight_16 (by decide) ?_
    refine pm_istore (lv' := [(6, (0, 1)), (0, (3, 0)), (1, (0, a1)), (2, (0, a2)), (3, (0, a3)), (4, (0, a4)), (5, (0, a5))]) hC dX11_weight_20 (by decide) rfl ?_
    refine pm_iload hC 0 dX11_weight_22 rfl ?_
    refine pm_if_eq (tgt := 39) hC ⟨by decide, by decide⟩ dX11_weight_24 (by decide) (fun c2 => ?_) (fun c2 => ?_)
    · skip
      exfalso; omega
    · skip
      refine pm_aload_n hC 1 (by decide) dX11_weight_27 rfl ?_
      refine pm_iload_n hC 2 dX11_weight_28 rfl ?_
      refine pm_iload_n hC 3 dX11_weight_29 rfl ?_
      refine pm_iload_n hC 4 dX11_weight_30 rfl ?_
      refine pm_iload hC 5 dX11_weight_31 rfl ?_
      refine pm_callV (ci := 11) (as := [(0, a1), (0, a2), (0, a3), (0, a4)]) (st := []) hC 0 (fD_X11_weighs_0 a1 a2 a3 a4 ⟨by omega, by omega⟩ ⟨by omega, by omega⟩ ⟨by omega, by omega⟩ ⟨by omega, by omega⟩) lm_X11_201 li_X11_weighs (by decide) (by decide) rfl rfl rfl (by decide) rfl rfl (Nat.le_of_ble_eq_true rfl) ⟨Nat.le_refl _, Or.inl rfl⟩ dX11_weight_33 ⟨rfl, hV0⟩ (fun r3 V4 hp5 => ?_)
      obtain ⟨y6, rfl, b7, hV8, hF9, hE10⟩ := hp5
      replace hT := hT.trans (pf_call_eq hE10)
      change pm_J X 36 [(6, (0, 1)), (0, (3, 0)), (1, (0, a1)), (2, (0, a2)), (3, (0, a3)), (4, (0, a4)), (5, (0, a5))] [(0, y6)] 118 V4
      have hF11 := pm_ff.tr (pm_ff.rf (cs := [74, 75, 76, 77]) (fs := [(73, 0), (73, 1), (73, 2), (73, 3), (73, 4), (73, 5), (73, 6), (73, 7), (73, 10), (73, 11), (73, 12), (73, 14)]) (V := V0)) hF9 (by decide) (by decide)
      refine pm_if_ne (tgt := 41) hC ⟨by omega, by omega⟩ dX11_weight_36 (by decide) (fun c12 => ?_) (fun c12 => ?_)
      · skip
        replace hT := hT.trans (if_pos c12)
        refine pm_iload hC 6 dX11_weight_41 rfl ?_
        refine pm_iconst (v := (-1)) hC dX11_weight_43 ?_
        refine pm_icmp_ne (tgt := 57) hC ⟨by omega, by omega⟩ ⟨by decide, by decide⟩ dX11_weight_44 (by decide) (fun c13 => ?_) (fun c13 => ?_)
        · skip
          replace hT := hT.trans (if_pos c13)
          exfalso; omega
        · skip
          replace hT := hT.trans (if_neg (fun q => q c13))
          refine pm_aload_n hC 1 (by decide) dX11_weight_47 rfl ?_
          have e14 : V4 0 5 = 73 := hV8.one 0 5 (by decide) (by decide) rfl
          refine pm_getf (v := 73) hC 0 fl_X11_75 rfl rfl (by decide) rfl e14 dX11_weight_48 ?_
          obtain ⟨y15, e16⟩ : ∃ y, V4 73 14 = y := ⟨_, rfl⟩
          have b17 := hV8.get 73 14 (lo := (-9223372036854775808)) (hi := 9223372036854775807) (by decide) (by decide) rfl
          rw [e16] at b17
          replace hT := hT.trans (pf_let_eq e16)
          refine pm_getf (v := y15) hC 73 fl_X11_205 rfl rfl (by decide) rfl e16 dX11_weight_51 ?_
          refine pm_goto (tgt := 67) hC dX11_weight_54 (by decide) ?_
          refine pm_l2i hC dX11_weight_67 ?_
          refine pm_wr hC (fun y18 hw20 b19 => ?_)
          replace hT := hT.trans (pf_let_eq hw20)
          have b19 := And.intro b19.1 b19.2
          exact pm_iret hC hR pm_nar0 ⟨y18, rfl, ⟨by omega, by omega⟩, hV8, hF11, hT⟩ dX11_weight_68
      · skip
        replace hT := hT.trans (if_neg (fun q => q c12))
        refine pm_iconst (v := (-1)) hC dX11_weight_39 ?_
        exact pm_iret hC hR pm_nar0 ⟨(-1), rfl, ⟨by omega, by omega⟩, hV8, hF11, hT⟩ dX11_weight_40
  · skip
    replace hT := hT.trans (if_neg c1)
    refine pm_aload_n hC 0 (by decide) dX11_weight_6 rfl ?_
    refine pm_iload hC 5 dX11_weight_7 rfl ?_
    refine pm_callV (ci := 11) (as := [(0, a5)]) (st := []) hC 0 (fD_X11_isSound_0 a5 ⟨by omega, by omega⟩) lm_X11_142 li_X11_isSound (by decide) (by decide) rfl rfl rfl (by decide) rfl rfl (Nat.le_of_ble_eq_true rfl) ⟨Nat.le_refl _, Or.inl rfl⟩ dX11_weight_9 ⟨rfl, hV0⟩ (fun r21 V22 hp23 => ?_)
    obtain ⟨y24, rfl, b25, rfl, hE26⟩ := hp23
    replace hT := hT.trans (pf_call_eq hE26)
    change pm_J X 12 [(0, (3, 0)), (1, (0, a1)), (2, (0, a2)), (3, (0, a3)), (4, (0, a4)), (5, (0, a5))] [(0, y24)] 118 V0
    refine pm_if_eq (tgt := 19) hC ⟨by omega, by omega⟩ dX11_weight_12 (by decide) (fun c27 => ?_) (fun c27 => ?_)
    · skip
      replace hT := hT.trans (if_pos c27)
      refine pm_iconst (v := 0) hC dX11_weight_19 ?_
      refine pm_istore (lv' := [(6, (0, 0)), (0, (3, 0)), (1, (0, a1)), (2, (0, a2)), (3, (0, a3)), (4, (0, a4)), (5, (0, a5))]) hC dX11_weight_20 (by decide) rfl ?_
      refine pm_iload hC 0 dX11_weight_22 rfl ?_
      refine pm_if_eq (tgt := 39) hC ⟨by decide, by decide⟩ dX11_weight_24 (by decide) (fun c28 => ?_) (fun c28 => ?_)
      · skip
        refine pm_iconst (v := (-1)) hC dX11_weight_39 ?_
        exact pm_iret hC hR pm_nar0 ⟨(-1), rfl, ⟨by omega, by omega⟩, hV0, (pm_ff.rf (cs := [74, 75, 76, 77]) (fs := [(73, 0), (73, 1), (73, 2), (73, 3), (73, 4), (73, 5), (73, 6), (73, 7), (73, 10), (73, 11), (73, 12), (73, 14)]) (V := V0)), hT⟩ dX11_weight_40
      · skip
        exfalso; omega
    · skip
      replace hT := hT.trans (if_neg c27)
      refine pm_iconst (v := 1) hC dX11_weight_15 ?_
      refine pm_goto (tgt := 20) hC dX11_weight_16 (by decide) ?_
      refine pm_istore (lv' := [(6, (0, 1)), (0, (3, 0)), (1, (0, a1)), (2, (0, a2)), (3, (0, a3)), (4, (0, a4)), (5, (0, a5))]) hC dX11_weight_20 (by decide) rfl ?_
      refine pm_iload hC 0 dX11_weight_22 rfl ?_
      refine pm_if_eq (tgt := 39) hC ⟨by decide, by decide⟩ dX11_weight_24 (by decide) (fun c29 => ?_) (fun c29 => ?_)
      · skip
        exfalso; omega
      · skip
        refine pm_aload_n hC 1 (by decide) dX11_weight_27 rfl ?_
        refine pm_iload_n hC 2 dX11_weight_28 rfl ?_
        refine pm_iload_n hC 3 dX11_weight_29 rfl ?_
        refine pm_iload_n hC 4 dX11_weight_30 rfl ?_
        refine pm_iload hC 5 dX11_weight_31 rfl ?_
        refine pm_callV (ci := 11) (as := [(0, a1), (0, a2), (0, a3), (0, a4)]) (st := []) hC 0 (fD_X11_weighs_0 a1 a2 a3 a4 ⟨by omega, by omega⟩ ⟨by omega, by omega⟩ ⟨by omega, by omega⟩ ⟨by omega, by omega⟩) lm_X11_201 li_X11_weighs (by decide) (by decide) rfl rfl rfl (by decide) rfl rfl (Nat.le_of_ble_eq_true rfl) ⟨Nat.le_refl _, Or.inl rfl⟩ dX11_weight_33 ⟨rfl, hV0⟩ (fun r30 V31 hp32 => ?_)
        obtain ⟨y33, rfl, b34, hV35, hF36, hE37⟩ := hp32
        replace hT := hT.trans (pf_call_eq hE37)
        change pm_J X 36 [(6, (0, 1)), (0, (3, 0)), (1, (0, a1)), (2, (0, a2)), (3, (0, a3)), (4, (0, a4)), (5, (0, a5))] [(0, y33)] 118 V31
        have hF38 := pm_ff.tr (pm_ff.rf (cs := [74, 75, 76, 77]) (fs := [(73, 0), (73, 1), (73, 2), (73, 3), (73, 4), (73, 5), (73, 6), (73, 7), (73, 10), (73, 11), (73, 12), (73, 14)]) (V := V0)) hF36 (by decide) (by decide)
        refine pm_if_ne (tgt := 41) hC ⟨by omega, by omega⟩ dX11_weight_36 (by decide) (fun c39 => ?_) (fun c39 => ?_)
        · skip
          replace hT := hT.trans (if_pos c39)
          refine pm_iload hC 6 dX11_weight_41 rfl ?_
          refine pm_iconst (v := (-1)) hC dX11_weight_43 ?_
          refine pm_icmp_ne (tgt := 57) hC ⟨by omega, by omega⟩ ⟨by decide, by decide⟩ dX11_weight_44 (by decide) (fun c40 => ?_) (fun c40 => ?_)
          · skip
            replace hT := hT.trans (if_pos c40)
            refine pm_aload_n hC 1 (by decide) dX11_weight_57 rfl ?_
            have e41 : V31 0 5 = 73 := hV35.one 0 5 (by decide) (by decide) rfl
            refine pm_getf (v := 73) hC 0 fl_X11_75 rfl rfl (by decide) rfl e41 dX11_weight_58 ?_
            rcases hV35.get2 73 13 (lo := 76) (hi := 77) (by decide) (by decide) rfl with e42 | e42
            · skip
              replace hT := hT.trans (if_pos e42)
              refine pm_getf (v := 76) hC 73 fl_X11_208 rfl rfl (by decide) rfl e42 dX11_weight_61 ?_
              refine pm_iload hC 6 dX11_weight_64 rfl ?_
              obtain ⟨y43, e44⟩ : ∃ y, V31 76 (a5 : Int).toNat = y := ⟨_, rfl⟩
              replace hT := hT.trans (pf_let_eq e44)
              have b45 := hV35.get 76 (a5 : Int).toNat (lo := (-9223372036854775808)) (hi := 9223372036854775807) (by decide) (show _ < 9 by omega) rfl
              rw [e44] at b45
              refine pm_laload (len := 9) (v := y43) hC 76 rfl rfl (by decide) ⟨by omega, by omega⟩ (by decide) e44 dX11_weight_66 ?_
              refine pm_l2i hC dX11_weight_67 ?_
              refine pm_wr hC (fun y46 hw48 b47 => ?_)
              replace hT := hT.trans (pf_let_eq hw48)
              have b47 := And.intro b47.1 b47.2
              exact pm_iret hC hR pm_nar0 ⟨y46, rfl, ⟨by omega, by omega⟩, hV35, hF38, hT⟩ dX11_weight_68
            · skip
              replace hT := hT.trans (if_neg (by rw [e42]; decide))
              refine pm_getf (v := 77) hC 73 fl_X11_208 rfl rfl (by decide) rfl e42 dX11_weight_61 ?_
              refine pm_iload hC 6 dX11_weight_64 rfl ?_
              obtain ⟨y49, e50⟩ : ∃ y, V31 77 (a5 : Int).toNat = y := ⟨_, rfl⟩
              replace hT := hT.trans (pf_let_eq e50)
              have b51 := hV35.get 77 (a5 : Int).toNat (lo := (-9223372036854775808)) (hi := 9223372036854775807) (by decide) (show _ < 9 by omega) rfl
              rw [e50] at b51
              refine pm_laload (len := 9) (v := y49) hC 77 rfl rfl (by decide) ⟨by omega, by omega⟩ (by decide) e50 dX11_weight_66 ?_
              refine pm_l2i hC dX11_weight_67 ?_
              refine pm_wr hC (fun y52 hw54 b53 => ?_)
              replace hT := hT.trans (pf_let_eq hw54)
              have b53 := And.intro b53.1 b53.2
              exact pm_iret hC hR pm_nar0 ⟨y52, rfl, ⟨by omega, by omega⟩, hV35, hF38, hT⟩ dX11_weight_68
          · skip
            replace hT := hT.trans (if_neg (fun q => q c40))
            exfalso; omega
        · skip
          replace hT := hT.trans (if_neg (fun q => q c39))
          refine pm_iconst (v := (-1)) hC dX11_weight_39 ?_
          exact pm_iret hC hR pm_nar0 ⟨(-1), rfl, ⟨by omega, by omega⟩, hV35, hF38, hT⟩ dX11_weight_40
set_option maxHeartbeats 4000000 in
set_option maxRecDepth 100000 in
theorem fD_X11_ofThousand (a1 a2 : Int) (h0 : (-9223372036854775808) ≤ a1 ∧ a1 ≤ 9223372036854775807) (h1 : (-9223372036854775808) ≤ a2 ∧ a2 ≤ 9223372036854775807) : pm_K 1 yX11_ofThousand cX11_ofThousand 4 (some .int) (fun av V => av = [(1, a1), (1, a2)] ∧ pm_ok 0 90 V) (fun _ V r V' => ∃ y, r = some (0, y) ∧ ((-2147483648) ≤ y ∧ y ≤ 2147483647) ∧ V = V' ∧ F_X11_ofThousand a1 a2 V = (y, V)) := by
  refine pm_MT.of (by decide) ⟨Nat.le_refl _, by decide⟩ (fun av V h => by rw [h.1]; exact (by decide : pm_words [(1, 0), (1, 0)] ≤ 4)) ?_
  rintro X av V0 hC - hR ⟨rfl, hV0⟩
  change pm_J X 0 [(0, (1, a1)), (2, (1, a2))] [] 118 V0
  have hT := F_X11_ofThousand_eq a1 a2 V0
  refine pm_lload_n hC 1 dX11_ofThousand_0 rfl ?_
  refine pm_lconst (x := 0) hC dX11_ofThousand_1 rfl ?_
  refine pm_lcmp hC ⟨by omega, by omega⟩ ⟨by decide, by decide⟩ dX11_ofThousand_2 (fun y1 b2 => ?_)
  replace hT := hT.trans (pf_let_eq (pm_cmp_u b2))
  refine pm_if_gt (tgt := 10) hC ⟨by omega, by omega⟩ dX11_ofThousand_3 (by decide) (fun c3 => ?_) (fun c3 => ?_)
  · skip
    replace hT := hT.trans (if_pos c3)
    refine pm_lload_n hC 0 dX11_ofThousand_10 rfl ?_
    refine pm_ldc2 (v := 1000) hC 4082 dX11_ofThousand_11 (by decide +kernel) ?_
    refine pm_lmul hC dX11_ofThousand_14 ?_
    refine pm_wrL hC (fun y4 hw6 b5 => ?_)
    replace hT := hT.trans (pf_let_eq hw6)
    have b5 := And.intro b5.1 b5.2
    refine pm_lload_n hC 1 dX11_ofThousand_15 rfl ?_
    refine pm_ldivT hC ⟨by omega, by omega⟩ ⟨by omega, by omega⟩ (by omega) dX11_ofThousand_16 ?_
    refine pm_wrL hC (fun y7 hw9 b8 => ?_)
    replace hT := hT.trans (pf_let_eq hw9)
    have b8 := And.intro b8.1 b8.2
    refine pm_l2i hC dX11_ofThousand_17 ?_
    refine pm_wr hC (fun y10 hw12 b11 => ?_)
    replace hT := hT.trans (pf_let_eq hw12)
    have b11 := And.intro b11.1 b11.2
    exact pm_iret hC hR pm_nar0 ⟨y10, rfl, ⟨by omega, by omega⟩, rfl, hT⟩ dX11_ofThousand_18
  · skip
    replace hT := hT.trans (if_neg (Int.not_lt.mpr c3))
    refine pm_iconst (v := 0) hC dX11_ofThousand_6 ?_
    refine pm_goto (tgt := 18) hC dX11_ofThousand_7 (by decide) ?_
    exact pm_iret hC hR pm_nar0 ⟨0, rfl, ⟨by omega, by omega⟩, rfl, hT⟩ dX11_ofThousand_18
set_option maxHeartbeats 4000000 in
set_option maxRecDepth 100000 in
theorem fD_X10_chanceOf_73 (a1 : Int) (h0 : 0 ≤ a1 ∧ a1 ≤ 8) : pm_K 2 yX10_chanceOf cX10_chanceOf 2 (some .int) (fun av V => av = [(3, 73), (0, a1)] ∧ pm_ok 0 90 V) (fun _ V r V' => ∃ y, r = some (0, y) ∧ ((-2147483648) ≤ y ∧ y ≤ 2147483647) ∧ V = V' ∧ F_X10_chanceOf a1 V = (y, V)) := by
  refine pm_MT.of (by decide) ⟨Nat.le_refl _, by decide⟩ (fun av V h => by rw [h.1]; exact (by decide : pm_words [(3, 0), (0, 0)] ≤ 2)) ?_
  rintro X av V0 hC - hR ⟨rfl, hV0⟩
  change pm_J X 0 [(0, (3, 73)), (1, (0, a1))] [] 118 V0
  have hT := F_X10_chanceOf_eq a1 V0
  refine pm_aload_n hC 0 (by decide) dX10_chanceOf_0 rfl ?_
  rcases hV0.get2 73 13 (lo := 76) (hi := 77) (by decide) (by decide) rfl with e1 | e1
  · skip
    replace hT := hT.trans (if_pos e1)
    refine pm_getf (v := 76) hC 73 fl_X10_50 rfl rfl (by decide) rfl e1 dX10_chanceOf_1 ?_
    refine pm_iload_n hC 1 dX10_chanceOf_4 rfl ?_
    obtain ⟨y2, e3⟩ : ∃ y, V0 76 (a1 : Int).toNat = y := ⟨_, rfl⟩
    replace hT := hT.trans (pf_let_eq e3)
    have b4 := hV0.get 76 (a1 : Int).toNat (lo := (-9223372036854775808)) (hi := 9223372036854775807) (by decide) (show _ < 9 by omega) rfl
    rw [e3] at b4
    refine pm_laload (len := 9) (v := y2) hC 76 rfl rfl (by decide) ⟨by omega, by omega⟩ (by decide) e3 dX10_chanceOf_5 ?_
    refine pm_aload_n hC 0 (by decide) dX10_chanceOf_6 rfl ?_
    obtain ⟨y5, e6⟩ : ∃ y, V0 73 14 = y := ⟨_, rfl⟩
    have b7 := hV0.get 73 14 (lo := (-9223372036854775808)) (hi := 9223372036854775807) (by decide) (by decide) rfl
    rw [e6] at b7
    replace hT := hT.trans (pf_let_eq e6)
    refine pm_getf (v := y5) hC 73 fl_X10_53 rfl rfl (by decide) rfl e6 dX10_chanceOf_7 ?_
    refine pm_callSN (as := [(1, y2), (1, y5)]) (st := []) hC (fD_X11_ofThousand y2 y5 ⟨by omega, by omega⟩ ⟨by omega, by omega⟩) lm_X10_141 ls_X11_ofThousand (by decide) (by decide) rfl rfl (Nat.le_of_ble_eq_true rfl) ⟨Nat.le_refl _, Or.inl rfl⟩ dX10_chanceOf_10 ⟨rfl, hV0⟩ (fun r8 V9 hp10 => ?_)
    obtain ⟨y11, rfl, b12, rfl, hE13⟩ := hp10
    replace hT := hT.trans (pf_call_eq hE13)
    change pm_J X 13 [(0, (3, 73)), (1, (0, a1))] [(0, y11)] 118 V0
    exact pm_iret hC hR pm_nar0 ⟨y11, rfl, ⟨by omega, by omega⟩, rfl, hT⟩ dX10_chanceOf_13
  · skip
    replace hT := hT.trans (if_neg (by rw [e1]; decide))
    refine pm_getf (v := 77) hC 73 fl_X10_50 rfl rfl (by decide) rfl e1 dX10_chanceOf_1 ?_
    refine pm_iload_n hC 1 dX10_chanceOf_4 rfl ?_
    obtain ⟨y14, e15⟩ : ∃ y, V0 77 (a1 : Int).toNat = y := ⟨_, rfl⟩
    replace hT := hT.trans (pf_let_eq e15)
    have b16 := hV0.get 77 (a1 : Int).toNat (lo := (-9223372036854775808)) (hi := 9223372036854775807) (by decide) (show _ < 9 by omega) rfl
    rw [e15] at b16
    refine pm_laload (len := 9) (v := y14) hC 77 rfl rfl (by decide) ⟨by omega, by omega⟩ (by decide) e15 dX10_chanceOf_5 ?_
    refine pm_aload_n hC 0 (by decide) dX10_chanceOf_6 rfl ?_
    obtain ⟨y17, e18⟩ : ∃ y, V0 73 14 = y := ⟨_, rfl⟩
    have b19 := hV0.get 73 14 (lo := (-9223372036854775808)) (hi := 9223372036854775807) (by decide) (by decide) rfl
    rw [e18] at b19
    replace hT := hT.trans (pf_let_eq e18)
    refine pm_getf (v := y17) hC 73 fl_X10_53 rfl rfl (by decide) rfl e18 dX10_chanceOf_7 ?_
    refine pm_callSN (as := [(1, y14), (1, y17)]) (st := []) hC (fD_X11_ofThousand y14 y17 ⟨by omega, by omega⟩ ⟨by omega, by omega⟩) lm_X10_141 ls_X11_ofThousand (by decide) (by decide) rfl rfl (Nat.le_of_ble_eq_true rfl) ⟨Nat.le_refl _, Or.inl rfl⟩ dX10_chanceOf_10 ⟨rfl, hV0⟩ (fun r20 V21 hp22 => ?_)
    obtain ⟨y23, rfl, b24, rfl, hE25⟩ := hp22
    replace hT := hT.trans (pf_call_eq hE25)
    change pm_J X 13 [(0, (3, 73)), (1, (0, a1))] [(0, y23)] 118 V0
    exact pm_iret hC hR pm_nar0 ⟨y23, rfl, ⟨by omega, by omega⟩, rfl, hT⟩ dX10_chanceOf_13
set_option maxHeartbeats 4000000 in
set_option maxRecDepth 100000 in
theorem fD_X11_chance_0 (a1 a2 a3 a4 a5 : Int) (h0 : (-2147483648) ≤ a1 ∧ a1 ≤ 2147483647) (h1 : (-2147483648) ≤ a2 ∧ a2 ≤ 2147483647) (h2 : (-2147483648) ≤ a3 ∧ a3 ≤ 2147483647) (h3 : (-2147483648) ≤ a4 ∧ a4 ≤ 2147483647) (h4 : (-2147483648) ≤ a5 ∧ a5 ≤ 2147483647) : pm_K 6 yX11_chance cX11_chance 6 (some .int) (fun av V => av = [(3, 0), (0, a1), (0, a2), (0, a3), (0, a4), (0, a5)] ∧ pm_ok 0 90 V) (fun _ V r V' => ∃ y, r = some (0, y) ∧ ((-2147483648) ≤ y ∧ y ≤ 2147483647) ∧ pm_ok 0 90 V' ∧ pm_ff [74, 75, 76, 77] [(73, 0), (73, 1), (73, 2), (73, 3), (73, 4), (73, 5), (73, 6), (73, 7), (73, 10), (73, 11), (73, 12), (73, 14)] V V' ∧ F_X11_chance a1 a2 a3 a4 a5 V = (y, V')) := by
  refine pm_MT.of (by decide) ⟨Nat.le_refl _, by decide⟩ (fun av V h => by rw [h.1]; exact (by decide : pm_words [(3, 0), (0, 0), (0, 0), (0, 0), (0, 0), (0, 0)] ≤ 6)) ?_
  rintro X av V0 hC - hR ⟨rfl, hV0⟩
  change pm_J X 0 [(0, (3, 0)), (1, (0, a1)), (2, (0, a2)), (3, (0, a3)), (4, (0, a4)), (5, (0, a5))] [] 118 V0
  have hT := F_X11_chance_eq a1 a2 a3 a4 a5 V0
  refine pm_aload_n hC 0 (by decide) dX11_chance_0 rfl ?_
  refine pm_iload hC 5 dX11_chance_1 rfl ?_
  refine pm_callV (ci := 11) (as := [(0, a5)]) (st := []) hC 0 (fD_X11_isSound_0 a5 ⟨by omega, by omega⟩) lm_X11_142 li_X11_isSound (by decide) (by decide) rfl rfl rfl (by decide) rfl rfl (Nat.le_of_ble_eq_true rfl) ⟨Nat.le_refl _, Or.inl rfl⟩ dX11_chance_3 ⟨rfl, hV0⟩ (fun r1 V2 hp3 => ?_)
  obtain ⟨y4, rfl, b5, rfl, hE6⟩ := hp3
  replace hT := hT.trans (pf_call_eq hE6)
  change pm_J X 6 [(0, (3, 0)), (1, (0, a1)), (2, (0, a2)), (3, (0, a3)), (4, (0, a4)), (5, (0, a5))] [(0, y4)] 118 V0
  refine pm_if_eq (tgt := 21) hC ⟨by omega, by omega⟩ dX11_chance_6 (by decide) (fun c7 => ?_) (fun c7 => ?_)
  · skip
    replace hT := hT.trans (if_pos c7)
    refine pm_iconst (v := (-1)) hC dX11_chance_21 ?_
    exact pm_iret hC hR pm_nar0 ⟨(-1), rfl, ⟨by omega, by omega⟩, hV0, (pm_ff.rf (cs := [74, 75, 76, 77]) (fs := [(73, 0), (73, 1), (73, 2), (73, 3), (73, 4), (73, 5), (73, 6), (73, 7), (73, 10), (73, 11), (73, 12), (73, 14)]) (V := V0)), hT⟩ dX11_chance_22
  · skip
    replace hT := hT.trans (if_neg c7)
    refine pm_aload_n hC 0 (by decide) dX11_chance_9 rfl ?_
    refine pm_iload_n hC 1 dX11_chance_10 rfl ?_
    refine pm_iload_n hC 2 dX11_chance_11 rfl ?_
    refine pm_iload_n hC 3 dX11_chance_12 rfl ?_
    refine pm_iload hC 4 dX11_chance_13 rfl ?_
    refine pm_callV (ci := 11) (as := [(0, a1), (0, a2), (0, a3), (0, a4)]) (st := []) hC 0 (fD_X11_weighs_0 a1 a2 a3 a4 ⟨by omega, by omega⟩ ⟨by omega, by omega⟩ ⟨by omega, by omega⟩ ⟨by omega, by omega⟩) lm_X11_201 li_X11_weighs (by decide) (by decide) rfl rfl rfl (by decide) rfl rfl (Nat.le_of_ble_eq_true rfl) ⟨Nat.le_refl _, Or.inl rfl⟩ dX11_chance_15 ⟨rfl, hV0⟩ (fun r8 V9 hp10 => ?_)
    obtain ⟨y11, rfl, b12, hV13, hF14, hE15⟩ := hp10
    replace hT := hT.trans (pf_call_eq hE15)
    change pm_J X 18 [(0, (3, 0)), (1, (0, a1)), (2, (0, a2)), (3, (0, a3)), (4, (0, a4)), (5, (0, a5))] [(0, y11)] 118 V9
    have hF16 := pm_ff.tr (pm_ff.rf (cs := [74, 75, 76, 77]) (fs := [(73, 0), (73, 1), (73, 2), (73, 3), (73, 4), (73, 5), (73, 6), (73, 7), (73, 10), (73, 11), (73, 12), (73, 14)]) (V := V0)) hF14 (by decide) (by decide)
    refine pm_if_ne (tgt := 23) hC ⟨by omega, by omega⟩ dX11_chance_18 (by decide) (fun c17 => ?_) (fun c17 => ?_)
    · skip
      replace hT := hT.trans (if_pos c17)
      refine pm_aload_n hC 0 (by decide) dX11_chance_23 rfl ?_
      have e18 : V9 0 5 = 73 := hV13.one 0 5 (by decide) (by decide) rfl
      refine pm_getf (v := 73) hC 0 fl_X11_75 rfl rfl (by decide) rfl e18 dX11_chance_24 ?_
      refine pm_iload hC 5 dX11_chance_27 rfl ?_
      refine pm_callV (ci := 10) (as := [(0, a5)]) (st := []) hC 73 (fD_X10_chanceOf_73 a5 ⟨by omega, by omega⟩) lm_X11_211 li_X10_chanceOf (by decide) (by decide) rfl rfl rfl (by decide) rfl rfl (Nat.le_of_ble_eq_true rfl) ⟨Nat.le_refl _, Or.inl rfl⟩ dX11_chance_29 ⟨rfl, hV13⟩ (fun r19 V20 hp21 => ?_)
      obtain ⟨y22, rfl, b23, rfl, hE24⟩ := hp21
      replace hT := hT.trans (pf_call_eq hE24)
      change pm_J X 32 [(0, (3, 0)), (1, (0, a1)), (2, (0, a2)), (3, (0, a3)), (4, (0, a4)), (5, (0, a5))] [(0, y22)] 118 V9
      exact pm_iret hC hR pm_nar0 ⟨y22, rfl, ⟨by omega, by omega⟩, hV13, hF16, hT⟩ dX11_chance_32
    · skip
      replace hT := hT.trans (if_neg (fun q => q c17))
      refine pm_iconst (v := (-1)) hC dX11_chance_21 ?_
      exact pm_iret hC hR pm_nar0 ⟨(-1), rfl, ⟨by omega, by omega⟩, hV13, hF16, hT⟩ dX11_chance_22
set_option maxHeartbeats 4000000 in
set_option maxRecDepth 100000 in
theorem fD_X11_isKind (a1 : Int) (h0 : (-2147483648) ≤ a1 ∧ a1 ≤ 2147483647) : pm_K 1 yX11_isKind cX11_isKind 1 (some .boolean) (fun av V => av = [(0, a1)] ∧ pm_ok 0 90 V) (fun _ V r V' => ∃ y, r = some (0, y) ∧ (0 ≤ y ∧ y ≤ 1 ∧ (y = 1 → (0 ≤ a1 ∧ a1 ≤ 3))) ∧ V = V' ∧ F_X11_isKind a1 V = (y, V)) := by
  refine pm_MT.of (by decide) ⟨Nat.le_refl _, by decide⟩ (fun av V h => by rw [h.1]; exact (by decide : pm_words [(0, 0)] ≤ 1)) ?_
  rintro X av V0 hC - hR ⟨rfl, hV0⟩
  change pm_J X 0 [(0, (0, a1))] [] 118 V0
  have hT := F_X11_isKind_eq a1 V0
  refine pm_iload_n hC 0 dX11_isKind_0 rfl ?_
  refine pm_if_lt (tgt := 13) hC ⟨by omega, by omega⟩ dX11_isKind_1 (by decide) (fun c1 => ?_) (fun c1 => ?_)
  · skip
    replace hT := hT.trans (if_pos c1)
    refine pm_iconst (v := 0) hC dX11_isKind_13 ?_
    exact pm_iret hC hR (pm_narZ (by omega)) ⟨0, rfl, ⟨by omega, by omega, by omega⟩, rfl, hT⟩ dX11_isKind_14
  · skip
    replace hT := hT.trans (if_neg (Int.not_lt.mpr c1))
    refine pm_iload_n hC 0 dX11_isKind_4 rfl ?_
    refine pm_iconst (v := 3) hC dX11_isKind_5 ?_
    refine pm_icmp_gt (tgt := 13) hC ⟨by omega, by omega⟩ ⟨by decide, by decide⟩ dX11_isKind_6 (by decide) (fun c2 => ?_) (fun c2 => ?_)
    · skip
      replace hT := hT.trans (if_pos c2)
      refine pm_iconst (v := 0) hC dX11_isKind_13 ?_
      exact pm_iret hC hR (pm_narZ (by omega)) ⟨0, rfl, ⟨by omega, by omega, by omega⟩, rfl, hT⟩ dX11_isKind_14
    · skip
      replace hT := hT.trans (if_neg (Int.not_lt.mpr c2))
      refine pm_iconst (v := 1) hC dX11_isKind_9 ?_
      refine pm_goto (tgt := 14) hC dX11_isKind_10 (by decide) ?_
      exact pm_iret hC hR (pm_narZ (by omega)) ⟨1, rfl, ⟨by omega, by omega, by omega⟩, rfl, hT⟩ dX11_isKind_14
set_option maxHeartbeats 4000000 in
set_option maxRecDepth 100000 in
theorem fD_X11_kindOfSaid (a1 a2 a3 : Int) (h0 : (-2147483648) ≤ a1 ∧ a1 ≤ 2147483647) (h1 : (-2147483648) ≤ a2 ∧ a2 ≤ 2147483647) (h2 : (-2147483648) ≤ a3 ∧ a3 ≤ 2147483647) : pm_K 1 yX11_kindOfSaid cX11_kindOfSaid 3 (some .int) (fun av V => av = [(0, a1), (0, a2), (0, a3)] ∧ pm_ok 0 90 V) (fun _ V r V' => ∃ y, r = some (0, y) ∧ (0 ≤ y ∧ y ≤ 3) ∧ V = V' ∧ F_X11_kindOfSaid a1 a2 a3 V = (y, V)) := by
  refine pm_MT.of (by decide) ⟨Nat.le_refl _, by decide⟩ (fun av V h => by rw [h.1]; exact (by decide : pm_words [(0, 0), (0, 0), (0, 0)] ≤ 3)) ?_
  rintro X av V0 hC - hR ⟨rfl, hV0⟩
  change pm_J X 0 [(0, (0, a1)), (1, (0, a2)), (2, (0, a3))] [] 118 V0
  have hT := F_X11_kindOfSaid_eq a1 a2 a3 V0
  refine pm_iload_n hC 0 dX11_kindOfSaid_0 rfl ?_
  refine pm_iload_n hC 1 dX11_kindOfSaid_1 rfl ?_
  refine pm_icmp_ne (tgt := 16) hC ⟨by omega, by omega⟩ ⟨by omega, by omega⟩ dX11_kindOfSaid_2 (by decide) (fun c1 => ?_) (fun c1 => ?_)
  · skip
    replace hT := hT.trans (if_pos c1)
    refine pm_iload_n hC 2 dX11_kindOfSaid_16 rfl ?_
    refine pm_iload_n hC 0 dX11_kindOfSaid_17 rfl ?_
    refine pm_icmp_ne (tgt := 23) hC ⟨by omega, by omega⟩ ⟨by omega, by omega⟩ dX11_kindOfSaid_18 (by decide) (fun c2 => ?_) (fun c2 => ?_)
    · skip
      replace hT := hT.trans (if_pos c2)
      refine pm_iload_n hC 2 dX11_kindOfSaid_23 rfl ?_
      refine pm_iload_n hC 1 dX11_kindOfSaid_24 rfl ?_
      refine pm_icmp_ne (tgt := 32) hC ⟨by omega, by omega⟩ ⟨by omega, by omega⟩ dX11_kindOfSaid_25 (by decide) (fun c3 => ?_) (fun c3 => ?_)
      · skip
        replace hT := hT.trans (if_pos c3)
        refine pm_iconst (v := 3) hC dX11_kindOfSaid_32 ?_
        exact pm_iret hC hR pm_nar0 ⟨3, rfl, ⟨by omega, by omega⟩, rfl, hT⟩ dX11_kindOfSaid_33
      · skip
        replace hT := hT.trans (if_neg (fun q => q c3))
        refine pm_iconst (v := 2) hC dX11_kindOfSaid_28 ?_
        refine pm_goto (tgt := 33) hC dX11_kindOfSaid_29 (by decide) ?_
        exact pm_iret hC hR pm_nar0 ⟨2, rfl, ⟨by omega, by omega⟩, rfl, hT⟩ dX11_kindOfSaid_33
    · skip
      replace hT := hT.trans (if_neg (fun q => q c2))
      refine pm_iconst (v := 1) hC dX11_kindOfSaid_21 ?_
      exact pm_iret hC hR pm_nar0 ⟨1, rfl, ⟨by omega, by omega⟩, rfl, hT⟩ dX11_kindOfSaid_22
  · skip
    replace hT := hT.trans (if_neg (fun q => q c1))
    refine pm_iload_n hC 2 dX11_kindOfSaid_5 rfl ?_
    refine pm_iload_n hC 0 dX11_kindOfSaid_6 rfl ?_
    refine pm_icmp_ne (tgt := 14) hC ⟨by omega, by omega⟩ ⟨by omega, by omega⟩ dX11_kindOfSaid_7 (by decide) (fun c4 => ?_) (fun c4 => ?_)
    · skip
      replace hT := hT.trans (if_pos c4)
      refine pm_iconst (v := 3) hC dX11_kindOfSaid_14 ?_
      exact pm_iret hC hR pm_nar0 ⟨3, rfl, ⟨by omega, by omega⟩, rfl, hT⟩ dX11_kindOfSaid_15
    · skip
      replace hT := hT.trans (if_neg (fun q => q c4))
      refine pm_iconst (v := 0) hC dX11_kindOfSaid_10 ?_
      refine pm_goto (tgt := 15) hC dX11_kindOfSaid_11 (by decide) ?_
      exact pm_iret hC hR pm_nar0 ⟨0, rfl, ⟨by omega, by omega⟩, rfl, hT⟩ dX11_kindOfSaid_15
set_option maxHeartbeats 4000000 in
set_option maxRecDepth 100000 in
theorem fD_X10_chanceOfKind_73 (a1 : Int) (h0 : (-2147483648) ≤ a1 ∧ a1 ≤ 2147483647) : pm_K 2 yX10_chanceOfKind cX10_chanceOfKind 5 (some .int) (fun av V => av = [(3, 73), (0, a1)] ∧ pm_ok 0 90 V) (fun _ V r V' => ∃ y, r = some (0, y) ∧ ((-2147483648) ≤ y ∧ y ≤ 2147483647) ∧ V = V' ∧ F_X10_chanceOfKind a1 V = (y, V)) := by
  refine pm_MT.of (by decide) ⟨Nat.le_refl _, by decide⟩ (fun av V h => by rw [h.1]; exact (by decide : pm_words [(3, 0), (0, 0)] ≤ 5)) ?_
  rintro X av V0 hC - hR ⟨rfl, hV0⟩
  change pm_J X 0 [(0, (3, 73)), (1, (0, a1))] [] 118 V0
  have hT := F_X10_chanceOfKind_eq a1 V0
  refine pm_lconst (x := 0) hC dX10_chanceOfKind_0 rfl ?_
  refine pm_lstore_n (lv' := [(2, (1, 0)), (0, (3, 73)), (1, (0, a1))]) hC dX10_chanceOfKind_1 (by decide) rfl ?_
  refine pm_iconst (v := 0) hC dX10_chanceOfKind_2 ?_
  refine pm_istore (lv' := [(4, (0, 0)), (2, (1, 0)), (0, (3, 73)), (1, (0, a1))]) hC dX10_chanceOfKind_3 (by decide) rfl ?_
  obtain ⟨B5, hB6, hT⟩ := pf_loop hT
  have L8 : ∀ (N10 : Nat) (x1 : Int) (x3 : Int), ((-9223372036854775808) ≤ x1 ∧ x1 ≤ 9223372036854775807) → (0 ≤ x3 ∧ x3 ≤ 9) → F_X10_chanceOfKind a1 V0 = pf_val ((0 : Int), V0) B5 (x1, x3) → (Int.toNat (9 - x3)) = N10 → pm_J X 5 [(0, (3, 73)), (1, (0, a1)), (2, (1, x1)), (4, (0, x3))] [] 118 V0 := by
    intro N10
    induction N10 using Nat.strongRecOn with
    | _ N10 ih11 =>
    intro x1 x3 b2 b4 hT hm9
    have hb7 := congrFun hB6 (x1, x3)
    refine pm_iload hC 3 dX10_chanceOfKind_5 rfl ?_
    refine pm_aload_n hC 0 (by decide) dX10_chanceOfKind_7 rfl ?_
    rcases hV0.get2 73 0 (lo := 45) (hi := 51) (by decide) (by decide) rfl with e12 | e12
    · skip
      replace hb7 := hb7.trans (if_pos e12)
      refine pm_getf (v := 45) hC 73 fl_X10_59 rfl rfl (by decide) rfl e12 dX10_chanceOfKind_8 ?_
      obtain ⟨y13, e14⟩ : ∃ y, V0 45 0 = y := ⟨_, rfl⟩
      have b15 := hV0.get 45 0 (lo := 0) (hi := 9) (by decide) (by decide) rfl
      rw [e14] at b15
      replace hb7 := hb7.trans (pf_let_eq e14)
      refine pm_getf (v := y13) hC 45 fl_X10_79 rfl rfl (by decide) rfl e14 dX10_chanceOfKind_11 ?_
      refine pm_icmp_ge (tgt := 50) hC ⟨by omega, by omega⟩ ⟨by omega, by omega⟩ dX10_chanceOfKind_14 (by decide) (fun c16 => ?_) (fun c16 => ?_)
      · skip
        replace hb7 := hb7.trans (if_pos c16)
        refine pm_lload_n hC 2 dX10_chanceOfKind_50 rfl ?_
        refine pm_aload_n hC 0 (by decide) dX10_chanceOfKind_51 rfl ?_
        obtain ⟨y17, e18⟩ : ∃ y, V0 73 14 = y := ⟨_, rfl⟩
        have b19 := hV0.get 73 14 (lo := (-9223372036854775808)) (hi := 9223372036854775807) (by decide) (by decide) rfl
        rw [e18] at b19
        replace hb7 := hb7.trans (pf_let_eq e18)
        refine pm_getf (v := y17) hC 73 fl_X10_53 rfl rfl (by decide) rfl e18 dX10_chanceOfKind_52 ?_
        refine pm_callSN (as := [(1, x1), (1, y17)]) (st := []) hC (fD_X11_ofThousand x1 y17 ⟨by omega, by omega⟩ ⟨by omega, by omega⟩) lm_X10_141 ls_X11_ofThousand (by decide) (by decide) rfl rfl (Nat.le_of_ble_eq_true rfl) ⟨Nat.le_refl _, Or.inl rfl⟩ dX10_chanceOfKind_55 ⟨rfl, hV0⟩ (fun r20 V21 hp22 => ?_)
        obtain ⟨y23, rfl, b24, rfl, hE25⟩ := hp22
        replace hb7 := hb7.trans (pf_call_eq hE25)
        change pm_J X 58 [(0, (3, 73)), (1, (0, a1)), (2, (1, x1)), (4, (0, x3))] [(0, y23)] 118 V0
        have hT := hT.trans (pf_val_inr hb7)
        exact pm_iret hC hR pm_nar0 ⟨y23, rfl, ⟨by omega, by omega⟩, rfl, hT⟩ dX10_chanceOfKind_58
      · skip
        replace hb7 := hb7.trans (if_neg (Int.not_le.mpr c16))
        refine pm_aload_n hC 0 (by decide) dX10_chanceOfKind_17 rfl ?_
        obtain ⟨y26, e27⟩ : ∃ y, V0 73 1 = y := ⟨_, rfl⟩
        have b28 := hV0.get 73 1 (lo := 0) (hi := 8) (by decide) (by decide) rfl
        rw [e27] at b28
        replace hb7 := hb7.trans (pf_let_eq e27)
        refine pm_getf (v := y26) hC 73 fl_X10_9 rfl rfl (by decide) rfl e27 dX10_chanceOfKind_18 ?_
        refine pm_aload_n hC 0 (by decide) dX10_chanceOfKind_21 rfl ?_
        obtain ⟨y29, e30⟩ : ∃ y, V0 73 2 = y := ⟨_, rfl⟩
        have b31 := hV0.get 73 2 (lo := 0) (hi := 8) (by decide) (by decide) rfl
        rw [e30] at b31
        replace hb7 := hb7.trans (pf_let_eq e30)
        refine pm_getf (v := y29) hC 73 fl_X10_15 rfl rfl (by decide) rfl e30 dX10_chanceOfKind_22 ?_
        refine pm_iload hC 3 dX10_chanceOfKind_25 rfl ?_
        refine pm_callSN (as := [(0, y26), (0, y29), (0, x3)]) (st := []) hC (fD_X11_kindOfSaid y26 y29 x3 ⟨by omega, by omega⟩ ⟨by omega, by omega⟩ ⟨by omega, by omega⟩) lm_X10_145 ls_X11_kindOfSaid (by decide) (by decide) rfl rfl (Nat.le_of_ble_eq_true rfl) ⟨Nat.le_refl _, Or.inl rfl⟩ dX10_chanceOfKind_27 ⟨rfl, hV0⟩ (fun r32 V33 hp34 => ?_)
        obtain ⟨y35, rfl, b36, rfl, hE37⟩ := hp34
        replace hb7 := hb7.trans (pf_call_eq hE37)
        change pm_J X 30 [(0, (3, 73)), (1, (0, a1)), (2, (1, x1)), (4, (0, x3))] [(0, y35)] 118 V0
        refine pm_iload_n hC 1 dX10_chanceOfKind_30 rfl ?_
        refine pm_icmp_ne (tgt := 44) hC ⟨by omega, by omega⟩ ⟨by omega, by omega⟩ dX10_chanceOfKind_31 (by decide) (fun c38 => ?_) (fun c38 => ?_)
        · skip
          replace hb7 := hb7.trans (if_pos c38)
          obtain ⟨x39, ei40⟩ : ∃ y : Int, x3 + 1 = y := ⟨_, rfl⟩
          replace hb7 := hb7.trans (pf_let_eq ei40)
          refine pm_iinc (y := x39) (lv' := [(4, (0, x39)), (0, (3, 73)), (1, (0, a1)), (2, (1, x1))]) hC 3 dX10_chanceOfKind_44 (by decide) rfl ei40 rfl ?_
          refine pm_goto (tgt := 5) hC dX10_chanceOfKind_47 (by decide) ?_
          refine pm_lvsub [1, 2, 3, 0] (lv' := [(0, (3, 73)), (1, (0, a1)), (2, (1, x1)), (4, (0, x39))]) rfl ?_
          exact ih11 _ (by omega) x1 x39 ⟨by omega, by omega⟩ ⟨by omega, by omega⟩ (hT.trans (pf_val_inl hb7)) rfl
        · skip
          replace hb7 := hb7.trans (if_neg (fun q => q c38))
          refine pm_lload_n hC 2 dX10_chanceOfKind_34 rfl ?_
          refine pm_aload_n hC 0 (by decide) dX10_chanceOfKind_35 rfl ?_
          rcases hV0.get2 73 13 (lo := 76) (hi := 77) (by decide) (by decide) rfl with e41 | e41
          · skip
            replace hb7 := hb7.trans (if_pos e41)
            refine pm_getf (v := 76) hC 73 fl_X10_50 rfl rfl (by decide) rfl e41 dX10_chanceOfKind_36 ?_
            refine pm_iload hC 3 dX10_chanceOfKind_39 rfl ?_
            obtain ⟨y42, e43⟩ : ∃ y, V0 76 (x3 : Int).toNat = y := ⟨_, rfl⟩
            replace hb7 := hb7.trans (pf_let_eq e43)
            have b44 := hV0.get 76 (x3 : Int).toNat (lo := (-9223372036854775808)) (hi := 9223372036854775807) (by decide) (show _ < 9 by omega) rfl
            rw [e43] at b44
            refine pm_laload (len := 9) (v := y42) hC 76 rfl rfl (by decide) ⟨by omega, by omega⟩ (by decide) e43 dX10_chanceOfKind_41 ?_
            refine pm_ladd hC dX10_chanceOfKind_42 ?_
            refine pm_wrL hC (fun y45 hw47 b46 => ?_)
            replace hb7 := hb7.trans (pf_let_eq hw47)
            have b46 := And.intro b46.1 b46.2
            refine pm_lstore_n (lv' := [(2, (1, y45)), (0, (3, 73)), (1, (0, a1)), (4, (0, x3))]) hC dX10_chanceOfKind_43 (by decide) rfl ?_
            obtain ⟨x48, ei49⟩ : ∃ y : Int, x3 + 1 = y := ⟨_, rfl⟩
            replace hb7 := hb7.trans (pf_let_eq ei49)
            refine pm_iinc (y := x48) (lv' := [(4, (0, x48)), (2, (1, y45)), (0, (3, 73)), (1, (0, a1))]) hC 3 dX10_chanceOfKind_44 (by decide) rfl ei49 rfl ?_
            refine pm_goto (tgt := 5) hC dX10_chanceOfKind_47 (by decide) ?_
            refine pm_lvsub [2, 3, 1, 0] (lv' := [(0, (3, 73)), (1, (0, a1)), (2, (1, y45)), (4, (0, x48))]) rfl ?_
            exact ih11 _ (by omega) y45 x48 ⟨by omega, by omega⟩ ⟨by omega, by omega⟩ (hT.trans (pf_val_inl hb7)) rfl
          · skip
            replace hb7 := hb7.trans (if_neg (by rw [e41]; decide))
            refine pm_getf (v := 77) hC 73 fl_X10_50 rfl rfl (by decide) rfl e41 dX10_chanceOfKind_36 ?_
            refine pm_iload hC 3 dX10_chanceOfKind_39 rfl ?_
            obtain ⟨y50, e51⟩ : ∃ y, V0 77 (x3 : Int).toNat = y := ⟨_, rfl⟩
            replace hb7 := hb7.trans (pf_let_eq e51)
            have b52 := hV0.get 77 (x3 : Int).toNat (lo := (-9223372036854775808)) (hi := 9223372036854775807) (by decide) (show _ < 9 by omega) rfl
            rw [e51] at b52
            refine pm_laload (len := 9) (v := y50) hC 77 rfl rfl (by decide) ⟨by omega, by omega⟩ (by decide) e51 dX10_chanceOfKind_41 ?_
            refine pm_ladd hC dX10_chanceOfKind_42 ?_
            refine pm_wrL hC (fun y53 hw55 b54 => ?_)
            replace hb7 := hb7.trans (pf_let_eq hw55)
            have b54 := And.intro b54.1 b54.2
            refine pm_lstore_n (lv' := [(2, (1, y53)), (0, (3, 73)), (1, (0, a1)), (4, (0, x3))]) hC dX10_chanceOfKind_43 (by decide) rfl ?_
            obtain ⟨x56, ei57⟩ : ∃ y : Int, x3 + 1 = y := ⟨_, rfl⟩
            replace hb7 := hb7.trans (pf_let_eq ei57)
            refine pm_iinc (y := x56) (lv' := [(4, (0, x56)), (2, (1, y53)), (0, (3, 73)), (1, (0, a1))]) hC 3 dX10_chanceOfKind_44 (by decide) rfl ei57 rfl ?_
            refine pm_goto (tgt := 5) hC dX10_chanceOfKind_47 (by decide) ?_
            refine pm_lvsub [2, 3, 1, 0] (lv' := [(0, (3, 73)), (1, (0, a1)), (2, (1, y53)), (4, (0, x56))]) rfl ?_
            exact ih11 _ (by omega) y53 x56 ⟨by omega, by omega⟩ ⟨by omega, by omega⟩ (hT.trans (pf_val_inl hb7)) rfl
    · skip
      replace hb7 := hb7.trans (if_neg (by rw [e12]; decide))
      refine pm_getf (v := 51) hC 73 fl_X10_59 rfl rfl (by decide) rfl e12 dX10_chanceOfKind_8 ?_
      obtain ⟨y58, e59⟩ : ∃ y, V0 51 0 = y := ⟨_, rfl⟩
      have b60 := hV0.get 51 0 (lo := 0) (hi := 9) (by decide) (by decide) rfl
      rw [e59] at b60
      replace hb7 := hb7.trans (pf_let_eq e59)
      refine pm_getf (v := y58) hC 51 fl_X10_79 rfl rfl (by decide) rfl e59 dX10_chanceOfKind_11 ?_
      refine pm_icmp_ge (tgt := 50) hC ⟨by omega, by omega⟩ ⟨by omega, by omega⟩ dX10_chanceOfKind_14 (by decide) (fun c61 => ?_) (fun c61 => ?_)
      · skip
        replace hb7 := hb7.trans (if_pos c61)
        refine pm_lload_n hC 2 dX10_chanceOfKind_50 rfl ?_
        refine pm_aload_n hC 0 (by decide) dX10_chanceOfKind_51 rfl ?_
        obtain ⟨y62, e63⟩ : ∃ y, V0 73 14 = y := ⟨_, rfl⟩
        have b64 := hV0.get 73 14 (lo := (-9223372036854775808)) (hi := 9223372036854775807) (by decide) (by decide) rfl
        rw [e63] at b64
        replace hb7 := hb7.trans (pf_let_eq e63)
        refine pm_getf (v := y62) hC 73 fl_X10_53 rfl rfl (by decide) rfl e63 dX10_chanceOfKind_52 ?_
        refine pm_callSN (as := [(1, x1), (1, y62)]) (st := []) hC (fD_X11_ofThousand x1 y62 ⟨by omega, by omega⟩ ⟨by omega, by omega⟩) lm_X10_141 ls_X11_ofThousand (by decide) (by decide) rfl rfl (Nat.le_of_ble_eq_true rfl) ⟨Nat.le_refl _, Or.inl rfl⟩ dX10_chanceOfKind_55 ⟨rfl, hV0⟩ (fun r65 V66 hp67 => ?_)
        obtain ⟨y68, rfl, b69, rfl, hE70⟩ := hp67
        replace hb7 := hb7.trans (pf_call_eq hE70)
        change pm_J X 58 [(0, (3, 73)), (1, (0, a1)), (2, (1, x1)), (4, (0, x3))] [(0, y68)] 118 V0
        have hT := hT.trans (pf_val_inr hb7)
        exact pm_iret hC hR pm_nar0 ⟨y68, rfl, ⟨by omega, by omega⟩, rfl, hT⟩ dX10_chanceOfKind_58
      · skip
        replace hb7 := hb7.trans (if_neg (Int.not_le.mpr c61))
        refine pm_aload_n hC 0 (by decide) dX10_chanceOfKind_17 rfl ?_
        obtain ⟨y71, e72⟩ : ∃ y, V0 73 1 = y := ⟨_, rfl⟩
        have b73 := hV0.get 73 1 (lo := 0) (hi := 8) (by decide) (by decide) rfl
        rw [e72] at b73
        replace hb7 := hb7.trans (pf_let_eq e72)
        refine pm_getf (v := y71) hC 73 fl_X10_9 rfl rfl (by decide) rfl e72 dX10_chanceOfKind_18 ?_
        refine pm_aload_n hC 0 (by decide) dX10_chanceOfKind_21 rfl ?_
        obtain ⟨y74, e75⟩ : ∃ y, V0 73 2 = y := ⟨_, rfl⟩
        have b76 := hV0.get 73 2 (lo := 0) (hi := 8) (by decide) (by decide) rfl
        rw [e75] at b76
        replace hb7 := hb7.trans (pf_let_eq e75)
        refine pm_getf (v := y74) hC 73 fl_X10_15 rfl rfl (by decide) rfl e75 dX10_chanceOfKind_22 ?_
        refine pm_iload hC 3 dX10_chanceOfKind_25 rfl ?_
        refine pm_callSN (as := [(0, y71), (0, y74), (0, x3)]) (st := []) hC (fD_X11_kindOfSaid y71 y74 x3 ⟨by omega, by omega⟩ ⟨by omega, by omega⟩ ⟨by omega, by omega⟩) lm_X10_145 ls_X11_kindOfSaid (by decide) (by decide) rfl rfl (Nat.le_of_ble_eq_true rfl) ⟨Nat.le_refl _, Or.inl rfl⟩ dX10_chanceOfKind_27 ⟨rfl, hV0⟩ (fun r77 V78 hp79 => ?_)
        obtain ⟨y80, rfl, b81, rfl, hE82⟩ := hp79
        replace hb7 := hb7.trans (pf_call_eq hE82)
        change pm_J X 30 [(0, (3, 73)), (1, (0, a1)), (2, (1, x1)), (4, (0, x3))] [(0, y80)] 118 V0
        refine pm_iload_n hC 1 dX10_chanceOfKind_30 rfl ?_
        refine pm_icmp_ne (tgt := 44) hC ⟨by omega, by omega⟩ ⟨by omega, by omega⟩ dX10_chanceOfKind_31 (by decide) (fun c83 => ?_) (fun c83 => ?_)
        · skip
          replace hb7 := hb7.trans (if_pos c83)
          obtain ⟨x84, ei85⟩ : ∃ y : Int, x3 + 1 = y := ⟨_, rfl⟩
          replace hb7 := hb7.trans (pf_let_eq ei85)
          refine pm_iinc (y := x84) (lv' := [(4, (0, x84)), (0, (3, 73)), (1, (0, a1)), (2, (1, x1))]) hC 3 dX10_chanceOfKind_44 (by decide) rfl ei85 rfl ?_
          refine pm_goto (tgt := 5) hC dX10_chanceOfKind_47 (by decide) ?_
          refine pm_lvsub [1, 2, 3, 0] (lv' := [(0, (3, 73)), (1, (0, a1)), (2, (1, x1)), (4, (0, x84))]) rfl ?_
          exact ih11 _ (by omega) x1 x84 ⟨by omega, by omega⟩ ⟨by omega, by omega⟩ (hT.trans (pf_val_inl hb7)) rfl
        · skip
          replace hb7 := hb7.trans (if_neg (fun q => q c83))
          refine pm_lload_n hC 2 dX10_chanceOfKind_34 rfl ?_
          refine pm_aload_n hC 0 (by decide) dX10_chanceOfKind_35 rfl ?_
          rcases hV0.get2 73 13 (lo := 76) (hi := 77) (by decide) (by decide) rfl with e86 | e86
          · skip
            replace hb7 := hb7.trans (if_pos e86)
            refine pm_getf (v := 76) hC 73 fl_X10_50 rfl rfl (by decide) rfl e86 dX10_chanceOfKind_36 ?_
            refine pm_iload hC 3 dX10_chanceOfKind_39 rfl ?_
            obtain ⟨y87, e88⟩ : ∃ y, V0 76 (x3 : Int).toNat = y := ⟨_, rfl⟩
            replace hb7 := hb7.trans (pf_let_eq e88)
            have b89 := hV0.get 76 (x3 : Int).toNat (lo := (-9223372036854775808)) (hi := 9223372036854775807) (by decide) (show _ < 9 by omega) rfl
            rw [e88] at b89
            refine pm_laload (len := 9) (v := y87) hC 76 rfl rfl (by decide) ⟨by omega, by omega⟩ (by decide) e88 dX10_chanceOfKind_41 ?_
            refine pm_ladd hC dX10_chanceOfKind_42 ?_
            refine pm_wrL hC (fun y90 hw92 b91 => ?_)
            replace hb7 := hb7.trans (pf_let_eq hw92)
            have b91 := And.intro b91.1 b91.2
            refine pm_lstore_n (lv' := [(2, (1, y90)), (0, (3, 73)), (1, (0, a1)), (4, (0, x3))]) hC dX10_chanceOfKind_43 (by decide) rfl ?_
            obtain ⟨x93, ei94⟩ : ∃ y : Int, x3 + 1 = y := ⟨_, rfl⟩
            replace hb7 := hb7.trans (pf_let_eq ei94)
            refine pm_iinc (y := x93) (lv' := [(4, (0, x93)), (2, (1, y90)), (0, (3, 73)), (1, (0, a1))]) hC 3 dX10_chanceOfKind_44 (by decide) rfl ei94 rfl ?_
            refine pm_goto (tgt := 5) hC dX10_chanceOfKind_47 (by decide) ?_
            refine pm_lvsub [2, 3, 1, 0] (lv' := [(0, (3, 73)), (1, (0, a1)), (2, (1, y90)), (4, (0, x93))]) rfl ?_
            exact ih11 _ (by omega) y90 x93 ⟨by omega, by omega⟩ ⟨by omega, by omega⟩ (hT.trans (pf_val_inl hb7)) rfl
          · skip
            replace hb7 := hb7.trans (if_neg (by rw [e86]; decide))
            refine pm_getf (v := 77) hC 73 fl_X10_50 rfl rfl (by decide) rfl e86 dX10_chanceOfKind_36 ?_
            refine pm_iload hC 3 dX10_chanceOfKind_39 rfl ?_
            obtain ⟨y95, e96⟩ : ∃ y, V0 77 (x3 : Int).toNat = y := ⟨_, rfl⟩
            replace hb7 := hb7.trans (pf_let_eq e96)
            have b97 := hV0.get 77 (x3 : Int).toNat (lo := (-9223372036854775808)) (hi := 9223372036854775807) (by decide) (show _ < 9 by omega) rfl
            rw [e96] at b97
            refine pm_laload (len := 9) (v := y95) hC 77 rfl rfl (by decide) ⟨by omega, by omega⟩ (by decide) e96 dX10_chanceOfKind_41 ?_
            refine pm_ladd hC dX10_chanceOfKind_42 ?_
            refine pm_wrL hC (fun y98 hw100 b99 => ?_)
            replace hb7 := hb7.trans (pf_let_eq hw100)
            have b99 := And.intro b99.1 b99.2
            refine pm_lstore_n (lv' := [(2, (1, y98)), (0, (3, 73)), (1, (0, a1)), (4, (0, x3))]) hC dX10_chanceOfKind_43 (by decide) rfl ?_
            obtain ⟨x101, ei102⟩ : ∃ y : Int, x3 + 1 = y := ⟨_, rfl⟩
            replace hb7 := hb7.trans (pf_let_eq ei102)
            refine pm_iinc (y := x101) (lv' := [(4, (0, x101)), (2, (1, y98)), (0, (3, 73)), (1, (0, a1))]) hC 3 dX10_chanceOfKind_44 (by decide) rfl ei102 rfl ?_
            refine pm_goto (tgt := 5) hC dX10_chanceOfKind_47 (by decide) ?_
            refine pm_lvsub [2, 3, 1, 0] (lv' := [(0, (3, 73)), (1, (0, a1)), (2, (1, y98)), (4, (0, x101))]) rfl ?_
            exact ih11 _ (by omega) y98 x101 ⟨by omega, by omega⟩ ⟨by omega, by omega⟩ (hT.trans (pf_val_inl hb7)) rfl
  refine pm_lvsub [2, 3, 1, 0] (lv' := [(0, (3, 73)), (1, (0, a1)), (2, (1, 0)), (4, (0, 0))]) rfl ?_
  exact L8 _ 0 0 ⟨by decide, by decide⟩ ⟨by decide, by decide⟩ hT rfl
