noncomputable def F_X9_sortOf (a1 : Int) (V0 : pm_M) : Int × pm_M := (if a1 < 97 then ((if a1 < 48 then ((if a1 = 32 then ((4, V0)) else ((if ¬ (a1 = 10) then ((3, V0)) else ((4, V0)))))) else ((if 57 < a1 then ((if a1 = 32 then (((0 : Int), V0)) else ((if ¬ (a1 = 10) then ((3, V0)) else (((0 : Int), V0)))))) else ((2, V0)))))) else ((if 122 < a1 then ((if a1 < 48 then (((0 : Int), V0)) else ((if 57 < a1 then ((if a1 = 32 then (((0 : Int), V0)) else ((if ¬ (a1 = 10) then ((3, V0)) else (((0 : Int), V0)))))) else (((0 : Int), V0)))))) else ((1, V0)))))
theorem F_X9_sortOf_eq (a1 : Int) (V0 : pm_M) : F_X9_sortOf a1 V0 = (if a1 < 97 then ((if a1 < 48 then ((if a1 = 32 then ((4, V0)) else ((if ¬ (a1 = 10) then ((3, V0)) else ((4, V0)))))) else ((if 57 < a1 then ((if a1 = 32 then (((0 : Int), V0)) else ((if ¬ (a1 = 10) then ((3, V0)) else (((0 : Int), V0)))))) else ((2, V0)))))) else ((if 122 < a1 then ((if a1 < 48 then (((0 : Int), V0)) else ((if 57 < a1 then ((if a1 = 32 then (((0 : Int), V0)) else ((if ¬ (a1 = 10) then ((3, V0)) else (((0 : Int), V0)))))) else (((0 : Int), V0)))))) else ((1, V0))))) := rfl
noncomputable def F_X9_take (a1 : Int) (V0 : pm_M) : Int × pm_M := pf_let (V0 3 1) fun y1 => (if ¬ (y1 = 1) then ((if ¬ (y1 = 2) then ((0, (pm_up V0 3 3 a1))) else (pf_let (V0 3 3) fun y6 => pf_let (pm_w64 (y6 * 10)) fun y9 => pf_let (pm_w64 (y9 + a1)) fun y12 => pf_let (pm_w64 (y12 - 48)) fun y15 => pf_let (pm_cmp y15 1000000) fun y18 => (if y18 ≤ 0 then ((0, (pm_up (pm_up V0 3 3 y15) 3 3 y15))) else ((0, (pm_up (pm_up V0 3 3 y15) 3 3 1000000))))))) else (pf_let (V0 3 3) fun y21 => pf_let ((pm_lshlV y21 8)) fun y24 => pf_let ((pm_lorV y24 a1)) fun y26 => (0, (pm_up V0 3 3 y26))))
theorem F_X9_take_eq (a1 : Int) (V0 : pm_M) : F_X9_take a1 V0 = pf_let (V0 3 1) fun y1 => (if ¬ (y1 = 1) then ((if ¬ (y1 = 2) then ((0, (pm_up V0 3 3 a1))) else (pf_let (V0 3 3) fun y6 => pf_let (pm_w64 (y6 * 10)) fun y9 => pf_let (pm_w64 (y9 + a1)) fun y12 => pf_let (pm_w64 (y12 - 48)) fun y15 => pf_let (pm_cmp y15 1000000) fun y18 => (if y18 ≤ 0 then ((0, (pm_up (pm_up V0 3 3 y15) 3 3 y15))) else ((0, (pm_up (pm_up V0 3 3 y15) 3 3 1000000))))))) else (pf_let (V0 3 3) fun y21 => pf_let ((pm_lshlV y21 8)) fun y24 => pf_let ((pm_lorV y24 a1)) fun y26 => (0, (pm_up V0 3 3 y26)))) := rfl
noncomputable def F_X9_step (V0 : pm_M) : Int × pm_M := pf_let (V0 3 4) fun y1 => pf_let ((pm_up V0 3 2 y1)) fun V4 => pf_val ((0 : Int), V0) (fun (q : pm_M) => match q with | V10 => (pf_let (V10 3 2) fun y20 => pf_let (V10 1 1) fun y24 => (if y24 ≤ y20 then ((if y24 ≤ y20 then (pf_let ((pm_up (pm_up (pm_up V10 3 4 y20) 3 3 0) 3 1 0)) fun V30 => pf_val (.inr ((0 : Int), V0)) (fun (q : pm_M) => match q with | V40 => (pf_let (V40 3 4) fun y51 => (if y24 ≤ y51 then (pf_let (V40 3 1) fun y55 => (if ¬ (y55 = 1) then ((.inr (.inr (0, V40)))) else (pf_let (V40 3 2) fun y59 => (if (y51 - y59) ≤ 8 then ((.inr (.inr (0, V40)))) else ((.inr (.inr (0, (pm_up V40 3 3 0))))))))) else (pf_let (V40 2 (y51 : Int).toNat) fun y65 => pf_call (F_X9_sortOf y65 V40) fun y71 _ => pf_let (V40 3 1) fun y74 => (if ¬ (y71 = y74) then ((if ¬ (y74 = 1) then ((.inr (.inr (0, V40)))) else (pf_let (V40 3 2) fun y79 => (if (y51 - y79) ≤ 8 then ((.inr (.inr (0, V40)))) else ((.inr (.inr (0, (pm_up V40 3 3 0))))))))) else (pf_call (F_X9_take y65 V40) fun _ V84 => (.inl (pm_up V84 3 4 (y51 + 1))))))))) V30) else (pf_let (V10 2 (y20 : Int).toNat) fun y98 => pf_call (F_X9_sortOf y98 (pm_up (pm_up V10 3 4 y20) 3 3 0)) fun y104 _ => (if ¬ (y104 = 3) then (pf_let ((pm_up (pm_up (pm_up V10 3 4 y20) 3 3 0) 3 1 y104)) fun V108 => pf_val (.inr ((0 : Int), V0)) (fun (q : pm_M) => match q with | V119 => (pf_let (V119 3 4) fun y131 => (if y24 ≤ y131 then (pf_let (V119 3 1) fun y135 => (if ¬ (y135 = 1) then ((.inr (.inr (0, V119)))) else (pf_let (V119 3 2) fun y139 => (if (y131 - y139) ≤ 8 then ((.inr (.inr (0, V119)))) else ((.inr (.inr (0, (pm_up V119 3 3 0))))))))) else (pf_let (V119 2 (y131 : Int).toNat) fun y144 => pf_call (F_X9_sortOf y144 V119) fun y150 _ => pf_let (V119 3 1) fun y153 => (if ¬ (y150 = y153) then ((if ¬ (y153 = 1) then ((.inr (.inr (0, V119)))) else (pf_let (V119 3 2) fun y158 => (if (y131 - y158) ≤ 8 then ((.inr (.inr (0, V119)))) else ((.inr (.inr (0, (pm_up V119 3 3 0))))))))) else (pf_call (F_X9_take y144 V119) fun _ V163 => (.inl (pm_up V163 3 4 (y131 + 1))))))))) V108) else (pf_let ((pm_up (pm_up (pm_up V10 3 4 y20) 3 3 0) 3 1 y104)) fun V176 => pf_val (.inr ((0 : Int), V0)) (fun (q : pm_M) => match q with | V187 => (pf_let (V187 3 4) fun y199 => (if (y20 + 1) ≤ y199 then (pf_let (V187 3 1) fun y203 => (if ¬ (y203 = 1) then ((.inr (.inr (0, V187)))) else (pf_let (V187 3 2) fun y207 => (if (y199 - y207) ≤ 8 then ((.inr (.inr (0, V187)))) else ((.inr (.inr (0, (pm_up V187 3 3 0))))))))) else (pf_let (V187 2 (y199 : Int).toNat) fun y212 => pf_call (F_X9_sortOf y212 V187) fun y218 _ => pf_let (V187 3 1) fun y221 => (if ¬ (y218 = y221) then ((if ¬ (y221 = 1) then ((.inr (.inr (0, V187)))) else (pf_let (V187 3 2) fun y226 => (if (y199 - y226) ≤ 8 then ((.inr (.inr (0, V187)))) else ((.inr (.inr (0, (pm_up V187 3 3 0))))))))) else (pf_call (F_X9_take y212 V187) fun _ V231 => (.inl (pm_up V231 3 4 (y199 + 1))))))))) V176))))) else (pf_let (V10 2 (y20 : Int).toNat) fun y245 => pf_call (F_X9_sortOf y245 V10) fun y251 _ => (if ¬ (y251 = 4) then ((if y24 ≤ y20 then (pf_let ((pm_up (pm_up (pm_up V10 3 4 y20) 3 3 0) 3 1 0)) fun V257 => pf_val (.inr ((0 : Int), V0)) (fun (q : pm_M) => match q with | V268 => (pf_let (V268 3 4) fun y280 => (if y24 ≤ y280 then (pf_let (V268 3 1) fun y284 => (if ¬ (y284 = 1) then ((.inr (.inr (0, V268)))) else (pf_let (V268 3 2) fun y288 => (if (y280 - y288) ≤ 8 then ((.inr (.inr (0, V268)))) else ((.inr (.inr (0, (pm_up V268 3 3 0))))))))) else (pf_let (V268 2 (y280 : Int).toNat) fun y293 => pf_call (F_X9_sortOf y293 V268) fun y299 _ => pf_let (V268 3 1) fun y302 => (if ¬ (y299 = y302) then ((if ¬ (y302 = 1) then ((.inr (.inr (0, V268)))) else (pf_let (V268 3 2) fun y307 => (if (y280 - y307) ≤ 8 then ((.inr (.inr (0, V268)))) else ((.inr (.inr (0, (pm_up V268 3 3 0))))))))) else (pf_call (F_X9_take y293 V268) fun _ V312 => (.inl (pm_up V312 3 4 (y280 + 1))))))))) V257) else (pf_call (F_X9_sortOf y245 (pm_up (pm_up V10 3 4 y20) 3 3 0)) fun y328 _ => (if ¬ (y328 = 3) then (pf_let ((pm_up (pm_up (pm_up V10 3 4 y20) 3 3 0) 3 1 y328)) fun V332 => pf_val (.inr ((0 : Int), V0)) (fun (q : pm_M) => match q with | V343 => (pf_let (V343 3 4) fun y355 => (if y24 ≤ y355 then (pf_let (V343 3 1) fun y359 => (if ¬ (y359 = 1) then ((.inr (.inr (0, V343)))) else (pf_let (V343 3 2) fun y363 => (if (y355 - y363) ≤ 8 then ((.inr (.inr (0, V343)))) else ((.inr (.inr (0, (pm_up V343 3 3 0))))))))) else (pf_let (V343 2 (y355 : Int).toNat) fun y368 => pf_call (F_X9_sortOf y368 V343) fun y374 _ => pf_let (V343 3 1) fun y377 => (if ¬ (y374 = y377) then ((if ¬ (y377 = 1) then ((.inr (.inr (0, V343)))) else (pf_let (V343 3 2) fun y382 => (if (y355 - y382) ≤ 8 then ((.inr (.inr (0, V343)))) else ((.inr (.inr (0, (pm_up V343 3 3 0))))))))) else (pf_call (F_X9_take y368 V343) fun _ V387 => (.inl (pm_up V387 3 4 (y355 + 1))))))))) V332) else (pf_let ((pm_up (pm_up (pm_up V10 3 4 y20) 3 3 0) 3 1 y328)) fun V400 => pf_val (.inr ((0 : Int), V0)) (fun (q : pm_M) => match q with | V411 => (pf_let (V411 3 4) fun y423 => (if (y20 + 1) ≤ y423 then (pf_let (V411 3 1) fun y427 => (if ¬ (y427 = 1) then ((.inr (.inr (0, V411)))) else (pf_let (V411 3 2) fun y431 => (if (y423 - y431) ≤ 8 then ((.inr (.inr (0, V411)))) else ((.inr (.inr (0, (pm_up V411 3 3 0))))))))) else (pf_let (V411 2 (y423 : Int).toNat) fun y436 => pf_call (F_X9_sortOf y436 V411) fun y442 _ => pf_let (V411 3 1) fun y445 => (if ¬ (y442 = y445) then ((if ¬ (y445 = 1) then ((.inr (.inr (0, V411)))) else (pf_let (V411 3 2) fun y450 => (if (y423 - y450) ≤ 8 then ((.inr (.inr (0, V411)))) else ((.inr (.inr (0, (pm_up V411 3 3 0))))))))) else (pf_call (F_X9_take y436 V411) fun _ V455 => (.inl (pm_up V455 3 4 (y423 + 1))))))))) V400))))) else ((.inl (pm_up V10 3 2 (y20 + 1))))))))) V4
theorem F_X9_step_eq (V0 : pm_M) : F_X9_step V0 = pf_let (V0 3 4) fun y1 => pf_let ((pm_up V0 3 2 y1)) fun V4 => pf_val ((0 : Int), V0) (fun (q : pm_M) => match q with | V10 => (pf_let (V10 3 2) fun y20 => pf_let (V10 1 1) fun y24 => (if y24 ≤ y20 then ((if y24 ≤ y20 then (pf_let ((pm_up (pm_up (pm_up V10 3 4 y20) 3 3 0) 3 1 0)) fun V30 => pf_val (.inr ((0 : Int), V0)) (fun (q : pm_M) => match q with | V40 => (pf_let (V40 3 4) fun y51 => (if y24 ≤ y51 then (pf_let (V40 3 1) fun y55 => (if ¬ (y55 = 1) then ((.inr (.inr (0, V40)))) else (pf_let (V40 3 2) fun y59 => (if (y51 - y59) ≤ 8 then ((.inr (.inr (0, V40)))) else ((.inr (.inr (0, (pm_up V40 3 3 0))))))))) else (pf_let (V40 2 (y51 : Int).toNat) fun y65 => pf_call (F_X9_sortOf y65 V40) fun y71 _ => pf_let (V40 3 1) fun y74 => (if ¬ (y71 = y74) then ((if ¬ (y74 = 1) then ((.inr (.inr (0, V40)))) else (pf_let (V40 3 2) fun y79 => (if (y51 - y79) ≤ 8 then ((.inr (.inr (0, V40)))) else ((.inr (.inr (0, (pm_up V40 3 3 0))))))))) else (pf_call (F_X9_take y65 V40) fun _ V84 => (.inl (pm_up V84 3 4 (y51 + 1))))))))) V30) else (pf_let (V10 2 (y20 : Int).toNat) fun y98 => pf_call (F_X9_sortOf y98 (pm_up (pm_up V10 3 4 y20) 3 3 0)) fun y104 _ => (if ¬ (y104 = 3) then (pf_let ((pm_up (pm_up (pm_up V10 3 4 y20) 3 3 0) 3 1 y104)) fun V108 => pf_val (.inr ((0 : Int), V0)) (fun (q : pm_M) => match q with | V119 => (pf_let (V119 3 4) fun y131 => (if y24 ≤ y131 then (pf_let (V119 3 1) fun y135 => (if ¬ (y135 = 1) then ((.inr (.inr (0, V119)))) else (pf_let (V119 3 2) fun y139 => (if (y131 - y139) ≤ 8 then ((.inr (.inr (0, V119)))) else ((.inr (.inr (0, (pm_up V119 3 3 0))))))))) else (pf_let (V119 2 (y131 : Int).toNat) fun y144 => pf_call (F_X9_sortOf y144 V119) fun y150 _ => pf_let (V119 3 1) fun y153 => (if ¬ (y150 = y153) then ((if ¬ (y153 = 1) then ((.inr (.inr (0, V119)))) else (pf_let (V119 3 2) fun y158 => (if (y131 - y158) ≤ 8 then ((.inr (.inr (0, V119)))) else ((.inr (.inr (0, (pm_up V119 3 3 0))))))))) else (pf_call (F_X9_take y144 V119) fun _ V163 => (.inl (pm_up V163 3 4 (y131 + 1))))))))) V108) else (pf_let ((pm_up (pm_up (pm_up V10 3 4 y20) 3 3 0) 3 1 y104)) fun V176 => pf_val (.inr ((0 : Int), V0)) (fun (q : pm_M) => match q with | V187 => (pf_let (V187 3 4) fun y199 => (if (y20 + 1) ≤ y199 then (pf_let (V187 3 1) fun y203 => (if ¬ (y203 = 1) then ((.inr (.inr (0, V187)))) else (pf_let (V187 3 2) fun y207 => (if (y199 - y207) ≤ 8 then ((.inr (.inr (0, V187)))) else ((.inr (.inr (0, (pm_up V187 3 3 0))))))))) else (pf_let (V187 2 (y199 : Int).toNat) fun y212 => pf_call (F_X9_sortOf y212 V187) fun y218 _ => pf_let (V187 3 1) fun y221 => (if ¬ (y218 = y221) then ((if ¬ (y221 = 1) then ((.inr (.inr (0, V187)))) else (pf_let (V187 3 2) fun y226 => (if (y199 - y226) ≤ 8 then ((.inr (.inr (0, V187)))) else ((.inr (.inr (0, (pm_up V187 3 3 0))))))))) else (pf_call (F_X9_take y212 V187) fun _ V231 => (.inl (pm_up V231 3 4 (y199 + 1))))))))) V176))))) else (pf_let (V10 2 (y20 : Int).toNat) fun y245 => pf_call (F_X9_sortOf y245 V10) fun y251 _ => (if ¬ (y251 = 4) then ((if y24 ≤ y20 then (pf_let ((pm_up (pm_up (pm_up V10 3 4 y20) 3 3 0) 3 1 0)) fun V257 => pf_val (.inr ((0 : Int), V0)) (fun (q : pm_M) => match q with | V268 => (pf_let (V268 3 4) fun y280 => (if y24 ≤ y280 then (pf_let (V268 3 1) fun y284 => (if ¬ (y284 = 1) then ((.inr (.inr (0, V268)))) else (pf_let (V268 3 2) fun y288 => (if (y280 - y288) ≤ 8 then ((.inr (.inr (0, V268)))) else ((.inr (.inr (0, (pm_up V268 3 3 0))))))))) else (pf_let (V268 2 (y280 : Int).toNat) fun y293 => pf_call (F_X9_sortOf y293 V268) fun y299 _ => pf_let (V268 3 1) fun y302 => (if ¬ (y299 = y302) then ((if ¬ (y302 = 1) then ((.inr (.inr (0, V268)))) else (pf_let (V268 3 2) fun y307 => (if (y280 - y307) ≤ 8 then ((.inr (.inr (0, V268)))) else ((.inr (.inr (0, (pm_up V268 3 3 0))))))))) else (pf_call (F_X9_take y293 V268) fun _ V312 => (.inl (pm_up V312 3 4 (y280 + 1))))))))) V257) else (pf_call (F_X9_sortOf y245 (pm_up (pm_up V10 3 4 y20) 3 3 0)) fun y328 _ => (if ¬ (y328 = 3) then (pf_let ((pm_up (pm_up (pm_up V10 3 4 y20) 3 3 0) 3 1 y328)) fun V332 => pf_val (.inr ((0 : Int), V0)) (fun (q : pm_M) => match q with | V343 => (pf_let (V343 3 4) fun y355 => (if y24 ≤ y355 then (pf_let (V343 3 1) fun y359 => (if ¬ (y359 = 1) then ((.inr (.inr (0, V343)))) else (pf_let (V343 3 2) fun y363 => (if (y355 - y363) ≤ 8 then ((.inr (.inr (0, V343)))) else ((.inr (.inr (0, (pm_up V343 3 3 0))))))))) else (pf_let (V343 2 (y355 : Int).toNat) fun y368 => pf_call (F_X9_sortOf y368 V343) fun y374 _ => pf_let (V343 3 1) fun y377 => (if ¬ (y374 = y377) then ((if ¬ (y377 = 1) then ((.inr (.inr (0, V343)))) else (pf_let (V343 3 2) fun y382 => (if (y355 - y382) ≤ 8 then ((.inr (.inr (0, V343)))) else ((.inr (.inr (0, (pm_up V343 3 3 0))))))))) else (pf_call (F_X9_take y368 V343) fun _ V387 => (.inl (pm_up V387 3 4 (y355 + 1))))))))) V332) else (pf_let ((pm_up (pm_up (pm_up V10 3 4 y20) 3 3 0) 3 1 y328)) fun V400 => pf_val (.inr ((0 : Int), V0)) (fun (q : pm_M) => match q with | V411 => (pf_let (V411 3 4) fun y423 => (if (y20 + 1) ≤ y423 then (pf_let (V411 3 1) fun y427 => (if ¬ (y427 = 1) then ((.inr (.inr (0, V411)))) else (pf_let (V411 3 2) fun y431 => (if (y423 - y431) ≤ 8 then ((.inr (.inr (0, V411)))) else ((.inr (.inr (0, (pm_up V411 3 3 0))))))))) else (pf_let (V411 2 (y423 : Int).toNat) fun y436 => pf_call (F_X9_sortOf y436 V411) fun y442 _ => pf_let (V411 3 1) fun y445 => (if ¬ (y442 = y445) then ((if ¬ (y445 = 1) then ((.inr (.inr (0, V411)))) else (pf_let (V411 3 2) fun y450 => (if (y423 - y450) ≤ 8 then ((.inr (.inr (0, V411)))) else ((.inr (.inr (0, (pm_up V411 3 3 0))))))))) else (pf_call (F_X9_take y436 V411) fun _ V455 => (.inl (pm_up V455 3 4 (y423 + 1))))))))) V400))))) else ((.inl (pm_up V10 3 2 (y20 + 1))))))))) V4 := rfl
noncomputable def F_X9_begin (V0 : pm_M) : Int × pm_M := pf_call (F_X9_step  (pm_up V0 3 4 0)) fun _ V2 => (0, V2)
theorem F_X9_begin_eq (V0 : pm_M) : F_X9_begin V0 = pf_call (F_X9_step  (pm_up V0 3 4 0)) fun _ V2 => (0, V2) := rfl
noncomputable def F_X9_isWord (a1 : Int) (V0 : pm_M) : Int × pm_M := pf_let (V0 3 1) fun y1 => (if ¬ (y1 = 1) then ((0, V0)) else (pf_let (V0 3 3) fun y5 => pf_let (pm_cmp y5 a1) fun y8 => (if ¬ (y8 = 0) then ((0, V0)) else ((1, V0)))))
theorem F_X9_isWord_eq (a1 : Int) (V0 : pm_M) : F_X9_isWord a1 V0 = pf_let (V0 3 1) fun y1 => (if ¬ (y1 = 1) then ((0, V0)) else (pf_let (V0 3 3) fun y5 => pf_let (pm_cmp y5 a1) fun y8 => (if ¬ (y8 = 0) then ((0, V0)) else ((1, V0))))) := rfl
noncomputable def F_X9_isSign (a1 : Int) (V0 : pm_M) : Int × pm_M := pf_let (V0 3 1) fun y1 => (if ¬ (y1 = 3) then ((0, V0)) else (pf_let (V0 3 3) fun y5 => pf_let (pm_cmp y5 a1) fun y8 => (if ¬ (y8 = 0) then ((0, V0)) else ((1, V0)))))
theorem F_X9_isSign_eq (a1 : Int) (V0 : pm_M) : F_X9_isSign a1 V0 = pf_let (V0 3 1) fun y1 => (if ¬ (y1 = 3) then ((0, V0)) else (pf_let (V0 3 3) fun y5 => pf_let (pm_cmp y5 a1) fun y8 => (if ¬ (y8 = 0) then ((0, V0)) else ((1, V0))))) := rfl
noncomputable def F_X9_isNumber (a1 a2 : Int) (V0 : pm_M) : Int × pm_M := pf_let (V0 3 1) fun y1 => (if ¬ (y1 = 2) then ((0, V0)) else (pf_let (V0 3 3) fun y5 => pf_let (pm_cmp y5 a1) fun y8 => (if y8 < 0 then ((0, V0)) else (pf_let (pm_cmp y5 a2) fun y11 => (if 0 < y11 then ((0, V0)) else ((1, V0)))))))
theorem F_X9_isNumber_eq (a1 a2 : Int) (V0 : pm_M) : F_X9_isNumber a1 a2 V0 = pf_let (V0 3 1) fun y1 => (if ¬ (y1 = 2) then ((0, V0)) else (pf_let (V0 3 3) fun y5 => pf_let (pm_cmp y5 a1) fun y8 => (if y8 < 0 then ((0, V0)) else (pf_let (pm_cmp y5 a2) fun y11 => (if 0 < y11 then ((0, V0)) else ((1, V0))))))) := rfl
noncomputable def F_X9_isName (V0 : pm_M) : Int × pm_M := pf_let (V0 3 3) fun y1 => pf_let (pm_cmp y1 495791205988) fun y4 => (if y4 = 0 then (pf_let (V0 3 1) fun y7 => (if ¬ (y7 = 1) then ((0, V0)) else (pf_let (pm_cmp y1 0) fun y11 => (if y11 = 0 then (((0 : Int), V0)) else ((0, V0)))))) else (pf_let (pm_cmp y1 508675318629) fun y15 => (if y15 = 0 then (pf_let (V0 3 1) fun y18 => (if ¬ (y18 = 1) then ((0, V0)) else (pf_let (pm_cmp y1 0) fun y22 => (if y22 = 0 then (((0 : Int), V0)) else ((0, V0)))))) else (pf_let (pm_cmp y1 1717658469) fun y26 => (if y26 = 0 then (pf_let (V0 3 1) fun y29 => (if ¬ (y29 = 1) then ((0, V0)) else (pf_let (pm_cmp y1 0) fun y33 => (if y33 = 0 then (((0 : Int), V0)) else ((0, V0)))))) else (pf_let (pm_cmp y1 1868850291) fun y37 => (if y37 = 0 then (pf_let (V0 3 1) fun y40 => (if ¬ (y40 = 1) then ((0, V0)) else (pf_let (pm_cmp y1 0) fun y44 => (if y44 = 0 then (((0 : Int), V0)) else ((0, V0)))))) else (pf_let (pm_cmp y1 1752132708) fun y48 => (if y48 = 0 then (pf_let (V0 3 1) fun y51 => (if ¬ (y51 = 1) then ((0, V0)) else (pf_let (pm_cmp y1 0) fun y55 => (if y55 = 0 then (((0 : Int), V0)) else ((0, V0)))))) else (pf_let (pm_cmp y1 465557353070) fun y59 => (if ¬ (y59 = 0) then (pf_let (V0 3 1) fun y62 => (if ¬ (y62 = 1) then ((0, V0)) else (pf_let (pm_cmp y1 0) fun y66 => (if y66 = 0 then ((0, V0)) else ((1, V0)))))) else (pf_let (V0 3 1) fun y70 => (if ¬ (y70 = 1) then ((0, V0)) else (pf_let (pm_cmp y1 0) fun y74 => (if y74 = 0 then (((0 : Int), V0)) else ((0, V0)))))))))))))))))
theorem F_X9_isName_eq (V0 : pm_M) : F_X9_isName V0 = pf_let (V0 3 3) fun y1 => pf_let (pm_cmp y1 495791205988) fun y4 => (if y4 = 0 then (pf_let (V0 3 1) fun y7 => (if ¬ (y7 = 1) then ((0, V0)) else (pf_let (pm_cmp y1 0) fun y11 => (if y11 = 0 then (((0 : Int), V0)) else ((0, V0)))))) else (pf_let (pm_cmp y1 508675318629) fun y15 => (if y15 = 0 then (pf_let (V0 3 1) fun y18 => (if ¬ (y18 = 1) then ((0, V0)) else (pf_let (pm_cmp y1 0) fun y22 => (if y22 = 0 then (((0 : Int), V0)) else ((0, V0)))))) else (pf_let (pm_cmp y1 1717658469) fun y26 => (if y26 = 0 then (pf_let (V0 3 1) fun y29 => (if ¬ (y29 = 1) then ((0, V0)) else (pf_let (pm_cmp y1 0) fun y33 => (if y33 = 0 then (((0 : Int), V0)) else ((0, V0)))))) else (pf_let (pm_cmp y1 1868850291) fun y37 => (if y37 = 0 then (pf_let (V0 3 1) fun y40 => (if ¬ (y40 = 1) then ((0, V0)) else (pf_let (pm_cmp y1 0) fun y44 => (if y44 = 0 then (((0 : Int), V0)) else ((0, V0)))))) else (pf_let (pm_cmp y1 1752132708) fun y48 => (if y48 = 0 then (pf_let (V0 3 1) fun y51 => (if ¬ (y51 = 1) then ((0, V0)) else (pf_let (pm_cmp y1 0) fun y55 => (if y55 = 0 then (((0 : Int), V0)) else ((0, V0)))))) else (pf_let (pm_cmp y1 465557353070) fun y59 => (if ¬ (y59 = 0) then (pf_let (V0 3 1) fun y62 => (if ¬ (y62 = 1) then ((0, V0)) else (pf_let (pm_cmp y1 0) fun y66 => (if y66 = 0 then ((0, V0)) else ((1, V0)))))) else (pf_let (V0 3 1) fun y70 => (if ¬ (y70 = 1) then ((0, V0)) else (pf_let (pm_cmp y1 0) fun y74 => (if y74 = 0 then (((0 : Int), V0)) else ((0, V0))))))))))))))))) := rfl
set_option maxHeartbeats 4000000 in
set_option maxRecDepth 100000 in
theorem fC_X9_sortOf (a1 : Int) (h0 : 0 ≤ a1 ∧ a1 ≤ 255) : pm_K 1 yX9_sortOf cX9_sortOf 1 (some .int) (fun av V => av = [(0, a1)] ∧ pm_ok 0 90 V) (fun _ V r V' => ∃ y, r = some (0, y) ∧ (1 ≤ y ∧ y ≤ 4) ∧ V = V' ∧ F_X9_sortOf a1 V = (y, V)) := by
  refine pm_MT.of (by decide) ⟨Nat.le_refl _, by decide⟩ (fun av V h => by rw [h.1]; exact (by decide : pm_words [(0, 0)] ≤ 1)) ?_
  rintro X av V0 hC - hR ⟨rfl, hV0⟩
  change pm_J X 0 [(0, (0, a1))] [] 118 V0
  have hT := F_X9_sortOf_eq a1 V0
  refine pm_iload_n hC 0 dX9_sortOf_0 rfl ?_
  refine pm_bipush (v := 97) hC dX9_sortOf_1 (by decide) ?_
  refine pm_icmp_lt (tgt := 14) hC ⟨by omega, by omega⟩ ⟨by decide, by decide⟩ dX9_sortOf_3 (by decide) (fun c1 => ?_) (fun c1 => ?_)
  · skip
    replace hT := hT.trans (if_pos c1)
    refine pm_iload_n hC 0 dX9_sortOf_14 rfl ?_
    refine pm_bipush (v := 48) hC dX9_sortOf_15 (by decide) ?_
    refine pm_icmp_lt (tgt := 28) hC ⟨by omega, by omega⟩ ⟨by decide, by decide⟩ dX9_sortOf_17 (by decide) (fun c2 => ?_) (fun c2 => ?_)
    · skip
      replace hT := hT.trans (if_pos c2)
      refine pm_iload_n hC 0 dX9_sortOf_28 rfl ?_
      refine pm_bipush (v := 32) hC dX9_sortOf_29 (by decide) ?_
      refine pm_icmp_eq (tgt := 40) hC ⟨by omega, by omega⟩ ⟨by decide, by decide⟩ dX9_sortOf_31 (by decide) (fun c3 => ?_) (fun c3 => ?_)
      · skip
        replace hT := hT.trans (if_pos c3)
        refine pm_iconst (v := 4) hC dX9_sortOf_40 ?_
        refine pm_goto (tgt := 45) hC dX9_sortOf_41 (by decide) ?_
        exact pm_iret hC hR pm_nar0 ⟨4, rfl, ⟨by omega, by omega⟩, rfl, hT⟩ dX9_sortOf_45
      · skip
        replace hT := hT.trans (if_neg c3)
        refine pm_iload_n hC 0 dX9_sortOf_34 rfl ?_
        refine pm_bipush (v := 10) hC dX9_sortOf_35 (by decide) ?_
        refine pm_icmp_ne (tgt := 44) hC ⟨by omega, by omega⟩ ⟨by decide, by decide⟩ dX9_sortOf_37 (by decide) (fun c4 => ?_) (fun c4 => ?_)
        · skip
          replace hT := hT.trans (if_pos c4)
          refine pm_iconst (v := 3) hC dX9_sortOf_44 ?_
          exact pm_iret hC hR pm_nar0 ⟨3, rfl, ⟨by omega, by omega⟩, rfl, hT⟩ dX9_sortOf_45
        · skip
          replace hT := hT.trans (if_neg (fun q => q c4))
          refine pm_iconst (v := 4) hC dX9_sortOf_40 ?_
          refine pm_goto (tgt := 45) hC dX9_sortOf_41 (by decide) ?_
          exact pm_iret hC hR pm_nar0 ⟨4, rfl, ⟨by omega, by omega⟩, rfl, hT⟩ dX9_sortOf_45
    · skip
      replace hT := hT.trans (if_neg (Int.not_lt.mpr c2))
      refine pm_iload_n hC 0 dX9_sortOf_20 rfl ?_
      refine pm_bipush (v := 57) hC dX9_sortOf_21 (by decide) ?_
      refine pm_icmp_gt (tgt := 28) hC ⟨by omega, by omega⟩ ⟨by decide, by decide⟩ dX9_sortOf_23 (by decide) (fun c5 => ?_) (fun c5 => ?_)
      · skip
        replace hT := hT.trans (if_pos c5)
        refine pm_iload_n hC 0 dX9_sortOf_28 rfl ?_
        refine pm_bipush (v := 32) hC dX9_sortOf_29 (by decide) ?_
        refine pm_icmp_eq (tgt := 40) hC ⟨by omega, by omega⟩ ⟨by decide, by decide⟩ dX9_sortOf_31 (by decide) (fun c6 => ?_) (fun c6 => ?_)
        · skip
          replace hT := hT.trans (if_pos c6)
          exfalso; omega
        · skip
          replace hT := hT.trans (if_neg c6)
          refine pm_iload_n hC 0 dX9_sortOf_34 rfl ?_
          refine pm_bipush (v := 10) hC dX9_sortOf_35 (by decide) ?_
          refine pm_icmp_ne (tgt := 44) hC ⟨by omega, by omega⟩ ⟨by decide, by decide⟩ dX9_sortOf_37 (by decide) (fun c7 => ?_) (fun c7 => ?_)
          · skip
            replace hT := hT.trans (if_pos c7)
            refine pm_iconst (v := 3) hC dX9_sortOf_44 ?_
            exact pm_iret hC hR pm_nar0 ⟨3, rfl, ⟨by omega, by omega⟩, rfl, hT⟩ dX9_sortOf_45
          · skip
            replace hT := hT.trans (if_neg (fun q => q c7))
            exfalso; omega
      · skip
        replace hT := hT.trans (if_neg (Int.not_lt.mpr c5))
        refine pm_iconst (v := 2) hC dX9_sortOf_26 ?_
        exact pm_iret hC hR pm_nar0 ⟨2, rfl, ⟨by omega, by omega⟩, rfl, hT⟩ dX9_sortOf_27
  · skip
    replace hT := hT.trans (if_neg (Int.not_lt.mpr c1))
    refine pm_iload_n hC 0 dX9_sortOf_6 rfl ?_
    refine pm_bipush (v := 122) hC dX9_sortOf_7 (by decide) ?_
    refine pm_icmp_gt (tgt := 14) hC ⟨by omega, by omega⟩ ⟨by decide, by decide⟩ dX9_sortOf_9 (by decide) (fun c8 => ?_) (fun c8 => ?_)
    · skip
      replace hT := hT.trans (if_pos c8)
      refine pm_iload_n hC 0 dX9_sortOf_14 rfl ?_
      refine pm_bipush (v := 48) hC dX9_sortOf_15 (by decide) ?_
      refine pm_icmp_lt (tgt := 28) hC ⟨by omega, by omega⟩ ⟨by decide, by decide⟩ dX9_sortOf_17 (by decide) (fun c9 => ?_) (fun c9 => ?_)
      · skip
        replace hT := hT.trans (if_pos c9)
        exfalso; omega
      · skip
        replace hT := hT.trans (if_neg (Int.not_lt.mpr c9))
        refine pm_iload_n hC 0 dX9_sortOf_20 rfl ?_
        refine pm_bipush (v := 57) hC dX9_sortOf_21 (by decide) ?_
        refine pm_icmp_gt (tgt := 28) hC ⟨by omega, by omega⟩ ⟨by decide, by decide⟩ dX9_sortOf_23 (by decide) (fun c10 => ?_) (fun c10 => ?_)
        · skip
          replace hT := hT.trans (if_pos c10)
          refine pm_iload_n hC 0 dX9_sortOf_28 rfl ?_
          refine pm_bipush (v := 32) hC dX9_sortOf_29 (by decide) ?_
          refine pm_icmp_eq (tgt := 40) hC ⟨by omega, by omega⟩ ⟨by decide, by decide⟩ dX9_sortOf_31 (by decide) (fun c11 => ?_) (fun c11 => ?_)
          · skip
            replace hT := hT.trans (if_pos c11)
            exfalso; omega
          · skip
            replace hT := hT.trans (if_neg c11)
            refine pm_iload_n hC 0 dX9_sortOf_34 rfl ?_
            refine pm_bipush (v := 10) hC dX9_sortOf_35 (by decide) ?_
            refine pm_icmp_ne (tgt := 44) hC ⟨by omega, by omega⟩ ⟨by decide, by decide⟩ dX9_sortOf_37 (by decide) (fun c12 => ?_) (fun c12 => ?_)
            · skip
              replace hT := hT.trans (if_pos c12)
              refine pm_iconst (v := 3) hC dX9_sortOf_44 ?_
              exact pm_iret hC hR pm_nar0 ⟨3, rfl, ⟨by omega, by omega⟩, rfl, hT⟩ dX9_sortOf_45
            · skip
              replace hT := hT.trans (if_neg (fun q => q c12))
              exfalso; omega
        · skip
          replace hT := hT.trans (if_neg (Int.not_lt.mpr c10))
          exfalso; omega
    · skip
      replace hT := hT.trans (if_neg (Int.not_lt.mpr c8))
      refine pm_iconst (v := 1) hC dX9_sortOf_12 ?_
      exact pm_iret hC hR pm_nar0 ⟨1, rfl, ⟨by omega, by omega⟩, rfl, hT⟩ dX9_sortOf_13
set_option maxHeartbeats 4000000 in
set_option maxRecDepth 100000 in
theorem fC_X9_take (a1 : Int) (h0 : 0 ≤ a1 ∧ a1 ≤ 255) : pm_K 1 yX9_take cX9_take 2 none (fun av V => av = [(3, 3), (0, a1)] ∧ pm_ok 0 90 V) (fun _ V r V' => r = none ∧ pm_ok 0 90 V' ∧ pm_fr [3] V V' ∧ V' 3 1 = V 3 1 ∧ V' 3 2 = V 3 2 ∧ V' 3 4 = V 3 4 ∧ F_X9_take a1 V = (0, V')) := by
  refine pm_MT.of (by decide) ⟨Nat.le_refl _, by decide⟩ (fun av V h => by rw [h.1]; exact (by decide : pm_words [(3, 0), (0, 0)] ≤ 2)) ?_
  rintro X av V0 hC - hR ⟨rfl, hV0⟩
  change pm_J X 0 [(0, (3, 3)), (1, (0, a1))] [] 118 V0
  have hT := F_X9_take_eq a1 V0
  refine pm_aload_n hC 0 (by decide) dX9_take_0 rfl ?_
  obtain ⟨y1, e2⟩ : ∃ y, V0 3 1 = y := ⟨_, rfl⟩
  have b3 := hV0.get 3 1 (lo := 0) (hi := 4) (by decide) (by decide) rfl
  rw [e2] at b3
  replace hT := hT.trans (pf_let_eq e2)
  refine pm_getf (v := y1) hC 3 fl_X9_13 rfl rfl (by decide) rfl e2 dX9_take_1 ?_
  refine pm_iconst (v := 1) hC dX9_take_4 ?_
  refine pm_icmp_ne (tgt := 25) hC ⟨by omega, by omega⟩ ⟨by decide, by decide⟩ dX9_take_5 (by decide) (fun c4 => ?_) (fun c4 => ?_)
  · skip
    replace hT := hT.trans (if_pos c4)
    refine pm_aload_n hC 0 (by decide) dX9_take_25 rfl ?_
    refine pm_getf (v := y1) hC 3 fl_X9_13 rfl rfl (by decide) rfl e2 dX9_take_26 ?_
    refine pm_iconst (v := 2) hC dX9_take_29 ?_
    refine pm_icmp_ne (tgt := 80) hC ⟨by omega, by omega⟩ ⟨by decide, by decide⟩ dX9_take_30 (by decide) (fun c5 => ?_) (fun c5 => ?_)
    · skip
      replace hT := hT.trans (if_pos c5)
      refine pm_aload_n hC 0 (by decide) dX9_take_80 rfl ?_
      refine pm_iload_n hC 1 dX9_take_81 rfl ?_
      refine pm_i2l hC ⟨by omega, by omega⟩ dX9_take_82 ?_
      refine pm_putf hC 3 fl_X9_20 rfl rfl rfl (by decide) rfl trivial dX9_take_83 ?_
      exact pm_vret hC hR ⟨rfl, (hV0.put 3 3 (x := a1) (lo := (-9223372036854775808)) (hi := 9223372036854775807) rfl ⟨by omega, by omega⟩), ((pm_fr.rf (ws := [3]) (V := V0)).up 3 3 a1 rfl), rfl, rfl, rfl, hT⟩ dX9_take_86
    · skip
      replace hT := hT.trans (if_neg (fun q => q c5))
      refine pm_aload_n hC 0 (by decide) dX9_take_33 rfl ?_
      refine pm_aload_n hC 0 (by decide) dX9_take_34 rfl ?_
      obtain ⟨y6, e7⟩ : ∃ y, V0 3 3 = y := ⟨_, rfl⟩
      have b8 := hV0.get 3 3 (lo := (-9223372036854775808)) (hi := 9223372036854775807) (by decide) (by decide) rfl
      rw [e7] at b8
      replace hT := hT.trans (pf_let_eq e7)
      refine pm_getf (v := y6) hC 3 fl_X9_20 rfl rfl (by decide) rfl e7 dX9_take_35 ?_
      refine pm_ldc2 (v := 10) hC 2238 dX9_take_38 (by decide +kernel) ?_
      refine pm_lmul hC dX9_take_41 ?_
      refine pm_wrL hC (fun y9 hw11 b10 => ?_)
      replace hT := hT.trans (pf_let_eq hw11)
      have b10 := And.intro b10.1 b10.2
      refine pm_iload_n hC 1 dX9_take_42 rfl ?_
      refine pm_i2l hC ⟨by omega, by omega⟩ dX9_take_43 ?_
      refine pm_ladd hC dX9_take_44 ?_
      refine pm_wrL hC (fun y12 hw14 b13 => ?_)
      replace hT := hT.trans (pf_let_eq hw14)
      have b13 := And.intro b13.1 b13.2
      refine pm_ldc2 (v := 48) hC 2239 dX9_take_45 (by decide +kernel) ?_
      refine pm_lsub hC dX9_take_48 ?_
      refine pm_wrL hC (fun y15 hw17 b16 => ?_)
      replace hT := hT.trans (pf_let_eq hw17)
      have b16 := And.intro b16.1 b16.2
      refine pm_putf hC 3 fl_X9_20 rfl rfl rfl (by decide) rfl trivial dX9_take_49 ?_
      refine pm_aload_n hC 0 (by decide) dX9_take_52 rfl ?_
      refine pm_aload_n hC 0 (by decide) dX9_take_53 rfl ?_
      refine pm_getf (v := y15) hC 3 fl_X9_20 rfl rfl (by decide) rfl rfl dX9_take_54 ?_
      refine pm_ldc2 (v := 1000000) hC 3000 dX9_take_57 (by decide +kernel) ?_
      refine pm_lcmp hC ⟨by omega, by omega⟩ ⟨by decide, by decide⟩ dX9_take_60 (fun y18 b19 => ?_)
      replace hT := hT.trans (pf_let_eq (pm_cmp_u b19))
      refine pm_if_le (tgt := 70) hC ⟨by omega, by omega⟩ dX9_take_61 (by decide) (fun c20 => ?_) (fun c20 => ?_)
      · skip
        replace hT := hT.trans (if_pos c20)
        refine pm_aload_n hC 0 (by decide) dX9_take_70 rfl ?_
        refine pm_getf (v := y15) hC 3 fl_X9_20 rfl rfl (by decide) rfl rfl dX9_take_71 ?_
        refine pm_putf hC 3 fl_X9_20 rfl rfl rfl (by decide) rfl trivial dX9_take_74 ?_
        refine pm_goto (tgt := 86) hC dX9_take_77 (by decide) ?_
        exact pm_vret hC hR ⟨rfl, ((hV0.put 3 3 (x := y15) (lo := (-9223372036854775808)) (hi := 9223372036854775807) rfl ⟨by omega, by omega⟩).put 3 3 (x := y15) (lo := (-9223372036854775808)) (hi := 9223372036854775807) rfl ⟨by omega, by omega⟩), (((pm_fr.rf (ws := [3]) (V := V0)).up 3 3 y15 rfl).up 3 3 y15 rfl), rfl, rfl, rfl, hT⟩ dX9_take_86
      · skip
        replace hT := hT.trans (if_neg (Int.not_le.mpr c20))
        refine pm_ldc2 (v := 1000000) hC 3000 dX9_take_64 (by decide +kernel) ?_
        refine pm_goto (tgt := 74) hC dX9_take_67 (by decide) ?_
        refine pm_putf hC 3 fl_X9_20 rfl rfl rfl (by decide) rfl trivial dX9_take_74 ?_
        refine pm_goto (tgt := 86) hC dX9_take_77 (by decide) ?_
        exact pm_vret hC hR ⟨rfl, ((hV0.put 3 3 (x := y15) (lo := (-9223372036854775808)) (hi := 9223372036854775807) rfl ⟨by omega, by omega⟩).put 3 3 (x := 1000000) (lo := (-9223372036854775808)) (hi := 9223372036854775807) rfl ⟨by decide, by decide⟩), (((pm_fr.rf (ws := [3]) (V := V0)).up 3 3 y15 rfl).up 3 3 1000000 rfl), rfl, rfl, rfl, hT⟩ dX9_take_86
  · skip
    replace hT := hT.trans (if_neg (fun q => q c4))
    refine pm_aload_n hC 0 (by decide) dX9_take_8 rfl ?_
    refine pm_aload_n hC 0 (by decide) dX9_take_9 rfl ?_
    obtain ⟨y21, e22⟩ : ∃ y, V0 3 3 = y := ⟨_, rfl⟩
    have b23 := hV0.get 3 3 (lo := (-9223372036854775808)) (hi := 9223372036854775807) (by decide) (by decide) rfl
    rw [e22] at b23
    replace hT := hT.trans (pf_let_eq e22)
    refine pm_getf (v := y21) hC 3 fl_X9_20 rfl rfl (by decide) rfl e22 dX9_take_10 ?_
    refine pm_bipush (v := 8) hC dX9_take_13 (by decide) ?_
    refine pm_lshl hC dX9_take_15 ?_
    have b25 := pm_lshlr y21 8
    obtain ⟨y24, hey24⟩ : ∃ z, (pm_lshlV y21 8) = z := ⟨_, rfl⟩
    rw [hey24] at b25 ⊢
    replace hT := hT.trans (pf_let_eq hey24)
    refine pm_iload_n hC 1 dX9_take_16 rfl ?_
    refine pm_i2l hC ⟨by omega, by omega⟩ dX9_take_17 ?_
    refine pm_lor hC dX9_take_18 ?_
    have b27 := pm_lorr y24 a1
    obtain ⟨y26, hey26⟩ : ∃ z, (pm_lorV y24 a1) = z := ⟨_, rfl⟩
    rw [hey26] at b27 ⊢
    replace hT := hT.trans (pf_let_eq hey26)
    refine pm_putf hC 3 fl_X9_20 rfl rfl rfl (by decide) rfl trivial dX9_take_19 ?_
    refine pm_goto (tgt := 86) hC dX9_take_22 (by decide) ?_
    exact pm_vret hC hR ⟨rfl, (hV0.put 3 3 (x := y26) (lo := (-9223372036854775808)) (hi := 9223372036854775807) rfl ⟨by omega, by omega⟩), ((pm_fr.rf (ws := [3]) (V := V0)).up 3 3 y26 rfl), rfl, rfl, rfl, hT⟩ dX9_take_86
set_option maxHeartbeats 4000000 in
set_option maxRecDepth 100000 in
theorem fC_X9_step  : pm_K 2 yX9_step cX9_step 2 none (fun av V => av = [(3, 3)] ∧ pm_ok 0 90 V) (fun _ V r V' => r = none ∧ pm_ok 0 90 V' ∧ pm_fr [3] V V' ∧ F_X9_step  V = (0, V')) := by
  refine pm_MT.of (by decide) ⟨Nat.le_refl _, by decide⟩ (fun av V h => by rw [h.1]; exact (by decide : pm_words [(3, 0)] ≤ 2)) ?_
  rintro X av V0 hC - hR ⟨rfl, hV0⟩
  change pm_J X 0 [(0, (3, 3))] [] 118 V0
  have hT := F_X9_step_eq  V0
  refine pm_aload_n hC 0 (by decide) dX9_step_0 rfl ?_
  refine pm_aload_n hC 0 (by decide) dX9_step_1 rfl ?_
  obtain ⟨y1, e2⟩ : ∃ y, V0 3 4 = y := ⟨_, rfl⟩
  have b3 := hV0.get 3 4 (lo := 0) (hi := 500) (by decide) (by decide) rfl
  rw [e2] at b3
  replace hT := hT.trans (pf_let_eq e2)
  refine pm_getf (v := y1) hC 3 fl_X9_24 rfl rfl (by decide) rfl e2 dX9_step_2 ?_
  refine pm_putf hC 3 fl_X9_17 rfl rfl rfl (by decide) rfl trivial dX9_step_5 ?_
  have hV6 := (hV0.put 3 2 (x := y1) (lo := 0) (hi := 500) rfl ⟨by omega, by omega⟩)
  have hF7 := ((pm_fr.rf (ws := [3]) (V := V0)).up 3 2 y1 rfl)
  obtain ⟨V4, hv5⟩ : ∃ V, V = (pm_up V0 3 2 y1) := ⟨_, rfl⟩
  rw [← hv5] at hV6 hF7
  rw [← hv5]
  replace hT := hT.trans (pf_let_eq hv5.symm)
  have e8 : V4 3 4 = y1 := by rw [hv5]; exact e2
  have e9 : V4 3 2 = y1 := by rw [hv5]; rfl
  obtain ⟨B13, hB14, hT⟩ := pf_loop hT
  have L16 : ∀ (N18 : Nat) (V10 : pm_M), pm_ok 0 90 V10 → pm_fr [3] V0 V10 → F_X9_step  V0 = pf_val ((0 : Int), V0) B13 V10 → (Int.toNat (500 - V10 3 2)) = N18 → pm_J X 8 [(0, (3, 3))] [] 118 V10 := by
    intro N18
    induction N18 using Nat.strongRecOn with
    | _ N18 ih19 =>
    intro V10 hV11 hF12 hT hm17
    have hb15 := congrFun hB14 V10
    refine pm_aload_n hC 0 (by decide) dX9_step_8 rfl ?_
    obtain ⟨y20, e21⟩ : ∃ y, V10 3 2 = y := ⟨_, rfl⟩
    have b22 := hV11.get 3 2 (lo := 0) (hi := 500) (by decide) (by decide) rfl
    rw [e21] at b22
    replace hb15 := hb15.trans (pf_let_eq e21)
    refine pm_getf (v := y20) hC 3 fl_X9_17 rfl rfl (by decide) rfl e21 dX9_step_9 ?_
    refine pm_aload_n hC 0 (by decide) dX9_step_12 rfl ?_
    have e23 : V10 3 0 = 1 := hV11.one 3 0 (by decide) (by decide) rfl
    refine pm_getf (v := 1) hC 3 fl_X9_7 rfl rfl (by decide) rfl e23 dX9_step_13 ?_
    obtain ⟨y24, e25⟩ : ∃ y, V10 1 1 = y := ⟨_, rfl⟩
    have b26 := hV11.get 1 1 (lo := 0) (hi := 500) (by decide) (by decide) rfl
    rw [e25] at b26
    replace hb15 := hb15.trans (pf_let_eq e25)
    refine pm_getf (v := y24) hC 1 fl_X9_30 rfl rfl (by decide) rfl e25 dX9_step_16 ?_
    refine pm_icmp_ge (tgt := 54) hC ⟨by omega, by omega⟩ ⟨by omega, by omega⟩ dX9_step_19 (by decide) (fun c27 => ?_) (fun c27 => ?_)
    · skip
      replace hb15 := hb15.trans (if_pos c27)
      refine pm_aload_n hC 0 (by decide) dX9_step_54 rfl ?_
      refine pm_aload_n hC 0 (by decide) dX9_step_55 rfl ?_
      refine pm_getf (v := y20) hC 3 fl_X9_17 rfl rfl (by decide) rfl e21 dX9_step_56 ?_
      refine pm_putf hC 3 fl_X9_24 rfl rfl rfl (by decide) rfl trivial dX9_step_59 ?_
      refine pm_aload_n hC 0 (by decide) dX9_step_62 rfl ?_
      refine pm_lconst (x := 0) hC dX9_step_63 rfl ?_
      refine pm_putf hC 3 fl_X9_20 rfl rfl rfl (by decide) rfl trivial dX9_step_64 ?_
      refine pm_aload_n hC 0 (by decide) dX9_step_67 rfl ?_
      refine pm_aload_n hC 0 (by decide) dX9_step_68 rfl ?_
      refine pm_getf (v := y20) hC 3 fl_X9_17 rfl rfl (by decide) rfl e21 dX9_step_69 ?_
      refine pm_aload_n hC 0 (by decide) dX9_step_72 rfl ?_
      refine pm_getf (v := 1) hC 3 fl_X9_7 rfl rfl (by decide) rfl e23 dX9_step_73 ?_
      refine pm_getf (v := y24) hC 1 fl_X9_30 rfl rfl (by decide) rfl e25 dX9_step_76 ?_
      refine pm_icmp_ge (tgt := 100) hC ⟨by omega, by omega⟩ ⟨by omega, by omega⟩ dX9_step_79 (by decide) (fun c28 => ?_) (fun c28 => ?_)
      · skip
        replace hb15 := hb15.trans (if_pos c28)
        refine pm_iconst (v := 0) hC dX9_step_100 ?_
        refine pm_putf hC 3 fl_X9_13 rfl rfl rfl (by decide) rfl trivial dX9_step_101 ?_
        refine pm_aload_n hC 0 (by decide) dX9_step_104 rfl ?_
        refine pm_getf (v := 0) hC 3 fl_X9_13 rfl rfl (by decide) rfl rfl dX9_step_105 ?_
        refine pm_iconst (v := 3) hC dX9_step_108 ?_
        refine pm_icmp_ne (tgt := 121) hC ⟨by decide, by decide⟩ ⟨by decide, by decide⟩ dX9_step_109 (by decide) (fun c29 => ?_) (fun c29 => ?_)
        · skip
          refine pm_aload_n hC 0 (by decide) dX9_step_121 rfl ?_
          refine pm_getf (v := 1) hC 3 fl_X9_7 rfl rfl (by decide) rfl e23 dX9_step_122 ?_
          refine pm_getf (v := y24) hC 1 fl_X9_30 rfl rfl (by decide) rfl e25 dX9_step_125 ?_
          refine pm_istore_n (lv' := [(1, (0, y24)), (0, (3, 3))]) hC dX9_step_128 (by decide) rfl ?_
          have hV32 := (((hV11.put 3 4 (x := y20) (lo := 0) (hi := 500) rfl ⟨by omega, by omega⟩).put 3 3 (x := 0) (lo := (-9223372036854775808)) (hi := 9223372036854775807) rfl ⟨by decide, by decide⟩).put 3 1 (x := 0) (lo := 0) (hi := 4) rfl ⟨by decide, by decide⟩)
          have hF33 := (((hF12.up 3 4 y20 rfl).up 3 3 0 rfl).up 3 1 0 rfl)
          obtain ⟨V30, hv31⟩ : ∃ V, V = (pm_up (pm_up (pm_up V10 3 4 y20) 3 3 0) 3 1 0) := ⟨_, rfl⟩
          rw [← hv31] at hV32 hF33
          rw [← hv31]
          replace hb15 := hb15.trans (pf_let_eq hv31.symm)
          have e34 : V30 3 2 = y20 := by rw [hv31]; exact e21
          have e35 : V30 3 0 = 1 := by rw [hv31]; exact e23
          have e36 : V30 1 1 = y24 := by rw [hv31]; exact e25
          have e37 : V30 3 4 = y20 := by rw [hv31]; rfl
          have e38 : V30 3 3 = 0 := by rw [hv31]; rfl
          have e39 : V30 3 1 = 0 := by rw [hv31]; rfl
          obtain ⟨B44, hB45, hb15⟩ := pf_loop hb15
          have L47 : ∀ (N49 : Nat) (V40 : pm_M), pm_ok 0 90 V40 → pm_fr [3] V0 V40 → V40 1 1 = y24 → B13 V10 = pf_val (.inr ((0 : Int), V0)) B44 V40 → (Int.toNat (500 - V40 3 4)) = N49 → pm_J X 129 [(0, (3, 3)), (1, (0, y24))] [] 118 V40 := by
            intro N49
            induction N49 using Nat.strongRecOn with
            | _ N49 ih50 =>
            intro V40 hV41 hF42 e43 hb15 hm48
            have hb46 := congrFun hB45 V40
            refine pm_aload_n hC 0 (by decide) dX9_step_129 rfl ?_
            obtain ⟨y51, e52⟩ : ∃ y, V40 3 4 = y := ⟨_, rfl⟩
            have b53 := hV41.get 3 4 (lo := 0) (hi := 500) (by decide) (by decide) rfl
            rw [e52] at b53
            replace hb46 := hb46.trans (pf_let_eq e52)
            refine pm_getf (v := y51) hC 3 fl_X9_24 rfl rfl (by decide) rfl e52 dX9_step_130 ?_
            refine pm_iload_n hC 1 dX9_step_133 rfl ?_
            refine pm_icmp_ge (tgt := 188) hC ⟨by omega, by omega⟩ ⟨by omega, by omega⟩ dX9_step_134 (by decide) (fun c54 => ?_) (fun c54 => ?_)
            · skip
              replace hb46 := hb46.trans (if_pos c54)
              refine pm_aload_n hC 0 (by decide) dX9_step_188 rfl ?_
              obtain ⟨y55, e56⟩ : ∃ y, V40 3 1 = y := ⟨_, rfl⟩
              have b57 := hV41.get 3 1 (lo := 0) (hi := 4) (by decide) (by decide) rfl
              rw [e56] at b57
              replace hb46 := hb46.trans (pf_let_eq e56)
              refine pm_getf (v := y55) hC 3 fl_X9_13 rfl rfl (by decide) rfl e56 dX9_step_189 ?_
              refine pm_iconst (v := 1) hC dX9_step_192 ?_
              refine pm_icmp_ne (tgt := 215) hC ⟨by omega, by omega⟩ ⟨by decide, by decide⟩ dX9_step_193 (by decide) (fun c58 => ?_) (fun c58 => ?_)
              · skip
                replace hb46 := hb46.trans (if_pos c58)
                have hb15 := hb15.trans (pf_val_inr hb46)
                have hT := hT.trans (pf_val_inr hb15)
                exact pm_vret hC hR ⟨rfl, hV41, hF42, hT⟩ dX9_step_215
              · skip
                replace hb46 := hb46.trans (if_neg (fun q => q c58))
                refine pm_aload_n hC 0 (by decide) dX9_step_196 rfl ?_
                refine pm_getf (v := y51) hC 3 fl_X9_24 rfl rfl (by decide) rfl e52 dX9_step_197 ?_
                refine pm_aload_n hC 0 (by decide) dX9_step_200 rfl ?_
                obtain ⟨y59, e60⟩ : ∃ y, V40 3 2 = y := ⟨_, rfl⟩
                have b61 := hV41.get 3 2 (lo := 0) (hi := 500) (by decide) (by decide) rfl
                rw [e60] at b61
                replace hb46 := hb46.trans (pf_let_eq e60)
                refine pm_getf (v := y59) hC 3 fl_X9_17 rfl rfl (by decide) rfl e60 dX9_step_201 ?_
                refine pm_isub hC dX9_step_204 ?_
                refine pm_bipush (v := 8) hC dX9_step_205 (by decide) ?_
                refine pm_icmp_le (tgt := 215) hC ⟨by omega, by omega⟩ ⟨by decide, by decide⟩ dX9_step_207 (by decide) (fun c62 => ?_) (fun c62 => ?_)
                · skip
                  replace hb46 := hb46.trans (if_pos c62)
                  have hb15 := hb15.trans (pf_val_inr hb46)
                  have hT := hT.trans (pf_val_inr hb15)
                  exact pm_vret hC hR ⟨rfl, hV41, hF42, hT⟩ dX9_step_215
                · skip
                  replace hb46 := hb46.trans (if_neg (Int.not_le.mpr c62))
                  refine pm_aload_n hC 0 (by decide) dX9_step_210 rfl ?_
                  refine pm_lconst (x := 0) hC dX9_step_211 rfl ?_
                  refine pm_putf hC 3 fl_X9_20 rfl rfl rfl (by decide) rfl trivial dX9_step_212 ?_
                  have hb15 := hb15.trans (pf_val_inr hb46)
                  have hT := hT.trans (pf_val_inr hb15)
                  exact pm_vret hC hR ⟨rfl, (hV41.put 3 3 (x := 0) (lo := (-9223372036854775808)) (hi := 9223372036854775807) rfl ⟨by decide, by decide⟩), (hF42.up 3 3 0 rfl), hT⟩ dX9_step_215
            · skip
              replace hb46 := hb46.trans (if_neg (Int.not_le.mpr c54))
              refine pm_aload_n hC 0 (by decide) dX9_step_137 rfl ?_
              have e63 : V40 3 0 = 1 := hV41.one 3 0 (by decide) (by decide) rfl
              refine pm_getf (v := 1) hC 3 fl_X9_7 rfl rfl (by decide) rfl e63 dX9_step_138 ?_
              have e64 : V40 1 0 = 2 := hV41.one 1 0 (by decide) (by decide) rfl
              refine pm_getf (v := 2) hC 1 fl_X9_35 rfl rfl (by decide) rfl e64 dX9_step_141 ?_
              refine pm_aload_n hC 0 (by decide) dX9_step_144 rfl ?_
              refine pm_getf (v := y51) hC 3 fl_X9_24 rfl rfl (by decide) rfl e52 dX9_step_145 ?_
              obtain ⟨y65, e66⟩ : ∃ y, V40 2 (y51 : Int).toNat = y := ⟨_, rfl⟩
              replace hb46 := hb46.trans (pf_let_eq e66)
              have b67 := hV41.get 2 (y51 : Int).toNat (lo := 0) (hi := 255) (by decide) (show _ < 500 by omega) rfl
              rw [e66] at b67
              refine pm_iaload (len := 500) (v := y65) hC 2 rfl rfl (by decide) ⟨by omega, by omega⟩ (by decide) e66 dX9_step_148 ?_
              refine pm_callS (as := [(0, y65)]) (st := []) hC (fC_X9_sortOf y65 ⟨by omega, by omega⟩) lm_X9_39 ls_X9_sortOf (by decide) (by decide) rfl rfl (Nat.le_of_ble_eq_true rfl) ⟨Nat.le_refl _, Or.inl rfl⟩ dX9_step_149 ⟨rfl, hV41⟩ (fun r68 V69 hp70 => ?_)
              obtain ⟨y71, rfl, b72, rfl, hE73⟩ := hp70
              replace hb46 := hb46.trans (pf_call_eq hE73)
              change pm_J X 152 [(0, (3, 3)), (1, (0, y24))] [(0, y71)] 118 V40
              refine pm_aload_n hC 0 (by decide) dX9_step_152 rfl ?_
              obtain ⟨y74, e75⟩ : ∃ y, V40 3 1 = y := ⟨_, rfl⟩
              have b76 := hV41.get 3 1 (lo := 0) (hi := 4) (by decide) (by decide) rfl
              rw [e75] at b76
              replace hb46 := hb46.trans (pf_let_eq e75)
              refine pm_getf (v := y74) hC 3 fl_X9_13 rfl rfl (by decide) rfl e75 dX9_step_153 ?_
              refine pm_icmp_ne (tgt := 188) hC ⟨by omega, by omega⟩ ⟨by omega, by omega⟩ dX9_step_156 (by decide) (fun c77 => ?_) (fun c77 => ?_)
              · skip
                replace hb46 := hb46.trans (if_pos c77)
                refine pm_aload_n hC 0 (by decide) dX9_step_188 rfl ?_
                refine pm_getf (v := y74) hC 3 fl_X9_13 rfl rfl (by decide) rfl e75 dX9_step_189 ?_
                refine pm_iconst (v := 1) hC dX9_step_192 ?_
                refine pm_icmp_ne (tgt := 215) hC ⟨by omega, by omega⟩ ⟨by decide, by decide⟩ dX9_step_193 (by decide) (fun c78 => ?_) (fun c78 => ?_)
                · skip
                  replace hb46 := hb46.trans (if_pos c78)
                  have hb15 := hb15.trans (pf_val_inr hb46)
                  have hT := hT.trans (pf_val_inr hb15)
                  exact pm_vret hC hR ⟨rfl, hV41, hF42, hT⟩ dX9_step_215
                · skip
                  replace hb46 := hb46.trans (if_neg (fun q => q c78))
                  refine pm_aload_n hC 0 (by decide) dX9_step_196 rfl ?_
                  refine pm_getf (v := y51) hC 3 fl_X9_24 rfl rfl (by decide) rfl e52 dX9_step_197 ?_
                  refine pm_aload_n hC 0 (by decide) dX9_step_200 rfl ?_
                  obtain ⟨y79, e80⟩ : ∃ y, V40 3 2 = y := ⟨_, rfl⟩
                  have b81 := hV41.get 3 2 (lo := 0) (hi := 500) (by decide) (by decide) rfl
                  rw [e80] at b81
                  replace hb46 := hb46.trans (pf_let_eq e80)
                  refine pm_getf (v := y79) hC 3 fl_X9_17 rfl rfl (by decide) rfl e80 dX9_step_201 ?_
                  refine pm_isub hC dX9_step_204 ?_
                  refine pm_bipush (v := 8) hC dX9_step_205 (by decide) ?_
                  refine pm_icmp_le (tgt := 215) hC ⟨by omega, by omega⟩ ⟨by decide, by decide⟩ dX9_step_207 (by decide) (fun c82 => ?_) (fun c82 => ?_)
                  · skip
                    replace hb46 := hb46.trans (if_pos c82)
                    have hb15 := hb15.trans (pf_val_inr hb46)
                    have hT := hT.trans (pf_val_inr hb15)
                    exact pm_vret hC hR ⟨rfl, hV41, hF42, hT⟩ dX9_step_215
                  · skip
                    replace hb46 := hb46.trans (if_neg (Int.not_le.mpr c82))
                    refine pm_aload_n hC 0 (by decide) dX9_step_210 rfl ?_
                    refine pm_lconst (x := 0) hC dX9_step_211 rfl ?_
                    refine pm_putf hC 3 fl_X9_20 rfl rfl rfl (by decide) rfl trivial dX9_step_212 ?_
                    have hb15 := hb15.trans (pf_val_inr hb46)
                    have hT := hT.trans (pf_val_inr hb15)
                    exact pm_vret hC hR ⟨rfl, (hV41.put 3 3 (x := 0) (lo := (-9223372036854775808)) (hi := 9223372036854775807) rfl ⟨by decide, by decide⟩), (hF42.up 3 3 0 rfl), hT⟩ dX9_step_215
              · skip
                replace hb46 := hb46.trans (if_neg (fun q => q c77))
                refine pm_aload_n hC 0 (by decide) dX9_step_159 rfl ?_
                refine pm_aload_n hC 0 (by decide) dX9_step_160 rfl ?_
                refine pm_getf (v := 1) hC 3 fl_X9_7 rfl rfl (by decide) rfl e63 dX9_step_161 ?_
                refine pm_getf (v := 2) hC 1 fl_X9_35 rfl rfl (by decide) rfl e64 dX9_step_164 ?_
                refine pm_aload_n hC 0 (by decide) dX9_step_167 rfl ?_
                refine pm_getf (v := y51) hC 3 fl_X9_24 rfl rfl (by decide) rfl e52 dX9_step_168 ?_
                refine pm_iaload (len := 500) (v := y65) hC 2 rfl rfl (by decide) ⟨by omega, by omega⟩ (by decide) e66 dX9_step_171 ?_
                refine pm_callV (ci := 9) (as := [(0, y65)]) (st := []) hC 3 (fC_X9_take y65 ⟨by omega, by omega⟩) lm_X9_43 li_X9_take (by decide) (by decide) rfl rfl rfl (by decide) rfl rfl (Nat.le_of_ble_eq_true rfl) ⟨Nat.le_refl _, Or.inl rfl⟩ dX9_step_172 ⟨rfl, hV41⟩ (fun r83 V84 hp85 => ?_)
                obtain ⟨rfl, hV86, hF87, hk88, hk89, hk90, hE91⟩ := hp85
                replace hb46 := hb46.trans (pf_call_eq hE91)
                change pm_J X 175 [(0, (3, 3)), (1, (0, y24))] [] 118 V84
                have hF92 := pm_fr.tr hF42 hF87 (by decide)
                have e93 : V84 1 1 = y24 := by rw [hF87 1 (by decide)]; exact e43
                have e94 : V84 3 4 = y51 := hk90.trans e52
                have e95 : V84 1 0 = 2 := by rw [hF87 1 (by decide)]; exact e64
                have e96 : V84 3 1 = y74 := hk88.trans e75
                refine pm_aload_n hC 0 (by decide) dX9_step_175 rfl ?_
                refine pm_dup hC rfl dX9_step_176 ?_
                refine pm_getf (v := y51) hC 3 fl_X9_24 rfl rfl (by decide) rfl e94 dX9_step_177 ?_
                refine pm_iconst (v := 1) hC dX9_step_180 ?_
                refine pm_iadd hC dX9_step_181 ?_
                refine pm_putf hC 3 fl_X9_24 rfl rfl rfl (by decide) rfl trivial dX9_step_182 ?_
                refine pm_goto (tgt := 129) hC dX9_step_185 (by decide) ?_
                refine pm_lvsub [0, 1] (lv' := [(0, (3, 3)), (1, (0, y24))]) rfl ?_
                exact ih50 _ (by show Int.toNat (500 - (y51 + 1)) < _; omega) (pm_up V84 3 4 (y51 + 1)) (hV86.put 3 4 (x := (y51 + 1)) (lo := 0) (hi := 500) rfl ⟨by omega, by omega⟩) (hF92.up 3 4 (y51 + 1) rfl) e93 (hb15.trans (pf_val_inl hb46)) rfl
          refine pm_lvsub [1, 0] (lv' := [(0, (3, 3)), (1, (0, y24))]) rfl ?_
          exact L47 _ V30 hV32 hF33 e36 hb15 rfl
        · skip
          exfalso; omega
      · skip
        replace hb15 := hb15.trans (if_neg (Int.not_le.mpr c28))
        refine pm_aload_n hC 0 (by decide) dX9_step_82 rfl ?_
        refine pm_getf (v := 1) hC 3 fl_X9_7 rfl rfl (by decide) rfl e23 dX9_step_83 ?_
        have e97 : V10 1 0 = 2 := hV11.one 1 0 (by decide) (by decide) rfl
        refine pm_getf (v := 2) hC 1 fl_X9_35 rfl rfl (by decide) rfl e97 dX9_step_86 ?_
        refine pm_aload_n hC 0 (by decide) dX9_step_89 rfl ?_
        refine pm_getf (v := y20) hC 3 fl_X9_17 rfl rfl (by decide) rfl e21 dX9_step_90 ?_
        obtain ⟨y98, e99⟩ : ∃ y, V10 2 (y20 : Int).toNat = y := ⟨_, rfl⟩
        replace hb15 := hb15.trans (pf_let_eq e99)
        have b100 := hV11.get 2 (y20 : Int).toNat (lo := 0) (hi := 255) (by decide) (show _ < 500 by omega) rfl
        rw [e99] at b100
        refine pm_iaload (len := 500) (v := y98) hC 2 rfl rfl (by decide) ⟨by omega, by omega⟩ (by decide) e99 dX9_step_93 ?_
        refine pm_callS (as := [(0, y98)]) (st := [(3, 3)]) hC (fC_X9_sortOf y98 ⟨by omega, by omega⟩) lm_X9_39 ls_X9_sortOf (by decide) (by decide) rfl rfl (Nat.le_of_ble_eq_true rfl) ⟨Nat.le_refl _, Or.inl rfl⟩ dX9_step_94 ⟨rfl, ((hV11.put 3 4 (x := y20) (lo := 0) (hi := 500) rfl ⟨by omega, by omega⟩).put 3 3 (x := 0) (lo := (-9223372036854775808)) (hi := 9223372036854775807) rfl ⟨by decide, by decide⟩)⟩ (fun r101 V102 hp103 => ?_)
        obtain ⟨y104, rfl, b105, rfl, hE106⟩ := hp103
        replace hb15 := hb15.trans (pf_call_eq hE106)
        change pm_J X 97 [(0, (3, 3))] [(0, y104), (3, 3)] 118 (pm_up (pm_up V10 3 4 y20) 3 3 0)
        refine pm_goto (tgt := 101) hC dX9_step_97 (by decide) ?_
        refine pm_putf hC 3 fl_X9_13 rfl rfl rfl (by decide) rfl trivial dX9_step_101 ?_
        refine pm_aload_n hC 0 (by decide) dX9_step_104 rfl ?_
        refine pm_getf (v := y104) hC 3 fl_X9_13 rfl rfl (by decide) rfl rfl dX9_step_105 ?_
        refine pm_iconst (v := 3) hC dX9_step_108 ?_
        refine pm_icmp_ne (tgt := 121) hC ⟨by omega, by omega⟩ ⟨by decide, by decide⟩ dX9_step_109 (by decide) (fun c107 => ?_) (fun c107 => ?_)
        · skip
          replace hb15 := hb15.trans (if_pos c107)
          refine pm_aload_n hC 0 (by decide) dX9_step_121 rfl ?_
          refine pm_getf (v := 1) hC 3 fl_X9_7 rfl rfl (by decide) rfl e23 dX9_step_122 ?_
          refine pm_getf (v := y24) hC 1 fl_X9_30 rfl rfl (by decide) rfl e25 dX9_step_125 ?_
          refine pm_istore_n (lv' := [(1, (0, y24)), (0, (3, 3))]) hC dX9_step_128 (by decide) rfl ?_
          have hV110 := (((hV11.put 3 4 (x := y20) (lo := 0) (hi := 500) rfl ⟨by omega, by omega⟩).put 3 3 (x := 0) (lo := (-9223372036854775808)) (hi := 9223372036854775807) rfl ⟨by decide, by decide⟩).put 3 1 (x := y104) (lo := 0) (hi := 4) rfl ⟨by omega, by omega⟩)
          have hF111 := (((hF12.up 3 4 y20 rfl).up 3 3 0 rfl).up 3 1 y104 rfl)
          obtain ⟨V108, hv109⟩ : ∃ V, V = (pm_up (pm_up (pm_up V10 3 4 y20) 3 3 0) 3 1 y104) := ⟨_, rfl⟩
          rw [← hv109] at hV110 hF111
          rw [← hv109]
          replace hb15 := hb15.trans (pf_let_eq hv109.symm)
          have e112 : V108 3 2 = y20 := by rw [hv109]; exact e21
          have e113 : V108 3 0 = 1 := by rw [hv109]; exact e23
          have e114 : V108 1 1 = y24 := by rw [hv109]; exact e25
          have e115 : V108 1 0 = 2 := by rw [hv109]; exact e97
          have e116 : V108 3 4 = y20 := by rw [hv109]; rfl
          have e117 : V108 3 3 = 0 := by rw [hv109]; rfl
          have e118 : V108 3 1 = y104 := by rw [hv109]; rfl
          obtain ⟨B124, hB125, hb15⟩ := pf_loop hb15
          have L127 : ∀ (N129 : Nat) (V119 : pm_M), pm_ok 0 90 V119 → pm_fr [3] V0 V119 → V119 1 1 = y24 → V119 1 0 = 2 → B13 V10 = pf_val (.inr ((0 : Int), V0)) B124 V119 → (Int.toNat (500 - V119 3 4)) = N129 → pm_J X 129 [(0, (3, 3)), (1, (0, y24))] [] 118 V119 := by
            intro N129
            induction N129 using Nat.strongRecOn with
            | _ N129 ih130 =>
            intro V119 hV120 hF121 e122 e123 hb15 hm128
            have hb126 := congrFun hB125 V119
            refine pm_aload_n hC 0 (by decide) dX9_step_129 rfl ?_
            obtain ⟨y131, e132⟩ : ∃ y, V119 3 4 = y := ⟨_, rfl⟩
            have b133 := hV120.get 3 4 (lo := 0) (hi := 500) (by decide) (by decide) rfl
            rw [e132] at b133
            replace hb126 := hb126.trans (pf_let_eq e132)
            refine pm_getf (v := y131) hC 3 fl_X9_24 rfl rfl (by decide) rfl e132 dX9_step_130 ?_
            refine pm_iload_n hC 1 dX9_step_133 rfl ?_
            refine pm_icmp_ge (tgt := 188) hC ⟨by omega, by omega⟩ ⟨by omega, by omega⟩ dX9_step_134 (by decide) (fun c134 => ?_) (fun c134 => ?_)
            · skip
              replace hb126 := hb126.trans (if_pos c134)
              refine pm_aload_n hC 0 (by decide) dX9_step_188 rfl ?_
              obtain ⟨y135, e136⟩ : ∃ y, V119 3 1 = y := ⟨_, rfl⟩
              have b137 := hV120.get 3 1 (lo := 0) (hi := 4) (by decide) (by decide) rfl
              rw [e136] at b137
              replace hb126 := hb126.trans (pf_let_eq e136)
              refine pm_getf (v := y135) hC 3 fl_X9_13 rfl rfl (by decide) rfl e136 dX9_step_189 ?_
              refine pm_iconst (v := 1) hC dX9_step_192 ?_
              refine pm_icmp_ne (tgt := 215) hC ⟨by omega, by omega⟩ ⟨by decide, by decide⟩ dX9_step_193 (by decide) (fun c138 => ?_) (fun c138 => ?_)
              · skip
                replace hb126 := hb126.trans (if_pos c138)
                have hb15 := hb15.trans (pf_val_inr hb126)
                have hT := hT.trans (pf_val_inr hb15)
                exact pm_vret hC hR ⟨rfl, hV120, hF121, hT⟩ dX9_step_215
              · skip
                replace hb126 := hb126.trans (if_neg (fun q => q c138))
                refine pm_aload_n hC 0 (by decide) dX9_step_196 rfl ?_
                refine pm_getf (v := y131) hC 3 fl_X9_24 rfl rfl (by decide) rfl e132 dX9_step_197 ?_
                refine pm_aload_n hC 0 (by decide) dX9_step_200 rfl ?_
                obtain ⟨y139, e140⟩ : ∃ y, V119 3 2 = y := ⟨_, rfl⟩
                have b141 := hV120.get 3 2 (lo := 0) (hi := 500) (by decide) (by decide) rfl
                rw [e140] at b141
                replace hb126 := hb126.trans (pf_let_eq e140)
                refine pm_getf (v := y139) hC 3 fl_X9_17 rfl rfl (by decide) rfl e140 dX9_step_201 ?_
                refine pm_isub hC dX9_step_204 ?_
                refine pm_bipush (v := 8) hC dX9_step_205 (by decide) ?_
                refine pm_icmp_le (tgt := 215) hC ⟨by omega, by omega⟩ ⟨by decide, by decide⟩ dX9_step_207 (by decide) (fun c142 => ?_) (fun c142 => ?_)
                · skip
                  replace hb126 := hb126.trans (if_pos c142)
                  have hb15 := hb15.trans (pf_val_inr hb126)
                  have hT := hT.trans (pf_val_inr hb15)
                  exact pm_vret hC hR ⟨rfl, hV120, hF121, hT⟩ dX9_step_215
                · skip
                  replace hb126 := hb126.trans (if_neg (Int.not_le.mpr c142))
                  refine pm_aload_n hC 0 (by decide) dX9_step_210 rfl ?_
                  refine pm_lconst (x := 0) hC dX9_step_211 rfl ?_
                  refine pm_putf hC 3 fl_X9_20 rfl rfl rfl (by decide) rfl trivial dX9_step_212 ?_
                  have hb15 := hb15.trans (pf_val_inr hb126)
                  have hT := hT.trans (pf_val_inr hb15)
                  exact pm_vret hC hR ⟨rfl, (hV120.put 3 3 (x := 0) (lo := (-9223372036854775808)) (hi := 9223372036854775807) rfl ⟨by decide, by decide⟩), (hF121.up 3 3 0 rfl), hT⟩ dX9_step_215
            · skip
              replace hb126 := hb126.trans (if_neg (Int.not_le.mpr c134))
              refine pm_aload_n hC 0 (by decide) dX9_step_137 rfl ?_
              have e143 : V119 3 0 = 1 := hV120.one 3 0 (by decide) (by decide) rfl
              refine pm_getf (v := 1) hC 3 fl_X9_7 rfl rfl (by decide) rfl e143 dX9_step_138 ?_
              refine pm_getf (v := 2) hC 1 fl_X9_35 rfl rfl (by decide) rfl e123 dX9_step_141 ?_
              refine pm_aload_n hC 0 (by decide) dX9_step_144 rfl ?_
              refine pm_getf (v := y131) hC 3 fl_X9_24 rfl rfl (by decide) rfl e132 dX9_step_145 ?_
              obtain ⟨y144, e145⟩ : ∃ y, V119 2 (y131 : Int).toNat = y := ⟨_, rfl⟩
              replace hb126 := hb126.trans (pf_let_eq e145)
              have b146 := hV120.get 2 (y131 : Int).toNat (lo := 0) (hi := 255) (by decide) (show _ < 500 by omega) rfl
              rw [e145] at b146
              refine pm_iaload (len := 500) (v := y144) hC 2 rfl rfl (by decide) ⟨by omega, by omega⟩ (by decide) e145 dX9_step_148 ?_
              refine pm_callS (as := [(0, y144)]) (st := []) hC (fC_X9_sortOf y144 ⟨by omega, by omega⟩) lm_X9_39 ls_X9_sortOf (by decide) (by decide) rfl rfl (Nat.le_of_ble_eq_true rfl) ⟨Nat.le_refl _, Or.inl rfl⟩ dX9_step_149 ⟨rfl, hV120⟩ (fun r147 V148 hp149 => ?_)
              obtain ⟨y150, rfl, b151, rfl, hE152⟩ := hp149
              replace hb126 := hb126.trans (pf_call_eq hE152)
              change pm_J X 152 [(0, (3, 3)), (1, (0, y24))] [(0, y150)] 118 V119
              refine pm_aload_n hC 0 (by decide) dX9_step_152 rfl ?_
              obtain ⟨y153, e154⟩ : ∃ y, V119 3 1 = y := ⟨_, rfl⟩
              have b155 := hV120.get 3 1 (lo := 0) (hi := 4) (by decide) (by decide) rfl
              rw [e154] at b155
              replace hb126 := hb126.trans (pf_let_eq e154)
              refine pm_getf (v := y153) hC 3 fl_X9_13 rfl rfl (by decide) rfl e154 dX9_step_153 ?_
              refine pm_icmp_ne (tgt := 188) hC ⟨by omega, by omega⟩ ⟨by omega, by omega⟩ dX9_step_156 (by decide) (fun c156 => ?_) (fun c156 => ?_)
              · skip
                replace hb126 := hb126.trans (if_pos c156)
                refine pm_aload_n hC 0 (by decide) dX9_step_188 rfl ?_
                refine pm_getf (v := y153) hC 3 fl_X9_13 rfl rfl (by decide) rfl e154 dX9_step_189 ?_
                refine pm_iconst (v := 1) hC dX9_step_192 ?_
                refine pm_icmp_ne (tgt := 215) hC ⟨by omega, by omega⟩ ⟨by decide, by decide⟩ dX9_step_193 (by decide) (fun c157 => ?_) (fun c157 => ?_)
                · skip
                  replace hb126 := hb126.trans (if_pos c157)
                  have hb15 := hb15.trans (pf_val_inr hb126)
                  have hT := hT.trans (pf_val_inr hb15)
                  exact pm_vret hC hR ⟨rfl, hV120, hF121, hT⟩ dX9_step_215
                · skip
                  replace hb126 := hb126.trans (if_neg (fun q => q c157))
                  refine pm_aload_n hC 0 (by decide) dX9_step_196 rfl ?_
                  refine pm_getf (v := y131) hC 3 fl_X9_24 rfl rfl (by decide) rfl e132 dX9_step_197 ?_
                  refine pm_aload_n hC 0 (by decide) dX9_step_200 rfl ?_
                  obtain ⟨y158, e159⟩ : ∃ y, V119 3 2 = y := ⟨_, rfl⟩
                  have b160 := hV120.get 3 2 (lo := 0) (hi := 500) (by decide) (by decide) rfl
                  rw [e159] at b160
                  replace hb126 := hb126.trans (pf_let_eq e159)
                  refine pm_getf (v := y158) hC 3 fl_X9_17 rfl rfl (by decide) rfl e159 dX9_step_201 ?_
                  refine pm_isub hC dX9_step_204 ?_
                  refine pm_bipush (v := 8) hC dX9_step_205 (by decide) ?_
                  refine pm_icmp_le (tgt := 215) hC ⟨by omega, by omega⟩ ⟨by decide, by decide⟩ dX9_step_207 (by decide) (fun c161 => ?_) (fun c161 => ?_)
                  · skip
                    replace hb126 := hb126.trans (if_pos c161)
                    have hb15 := hb15.trans (pf_val_inr hb126)
                    have hT := hT.trans (pf_val_inr hb15)
                    exact pm_vret hC hR ⟨rfl, hV120, hF121, hT⟩ dX9_step_215
                  · skip
                    replace hb126 := hb126.trans (if_neg (Int.not_le.mpr c161))
                    refine pm_aload_n hC 0 (by decide) dX9_step_210 rfl ?_
                    refine pm_lconst (x := 0) hC dX9_step_211 rfl ?_
                    refine pm_putf hC 3 fl_X9_20 rfl rfl rfl (by decide) rfl trivial dX9_step_212 ?_
                    have hb15 := hb15.trans (pf_val_inr hb126)
                    have hT := hT.trans (pf_val_inr hb15)
                    exact pm_vret hC hR ⟨rfl, (hV120.put 3 3 (x := 0) (lo := (-9223372036854775808)) (hi := 9223372036854775807) rfl ⟨by decide, by decide⟩), (hF121.up 3 3 0 rfl), hT⟩ dX9_step_215
              · skip
                replace hb126 := hb126.trans (if_neg (fun q => q c156))
                refine pm_aload_n hC 0 (by decide) dX9_step_159 rfl ?_
                refine pm_aload_n hC 0 (by decide) dX9_step_160 rfl ?_
                refine pm_getf (v := 1) hC 3 fl_X9_7 rfl rfl (by decide) rfl e143 dX9_step_161 ?_
                refine pm_getf (v := 2) hC 1 fl_X9_35 rfl rfl (by decide) rfl e123 dX9_step_164 ?_
                refine pm_aload_n hC 0 (by decide) dX9_step_167 rfl ?_
                refine pm_getf (v := y131) hC 3 fl_X9_24 rfl rfl (by decide) rfl e132 dX9_step_168 ?_
                refine pm_iaload (len := 500) (v := y144) hC 2 rfl rfl (by decide) ⟨by omega, by omega⟩ (by decide) e145 dX9_step_171 ?_
                refine pm_callV (ci := 9) (as := [(0, y144)]) (st := []) hC 3 (fC_X9_take y144 ⟨by omega, by omega⟩) lm_X9_43 li_X9_take (by decide) (by decide) rfl rfl rfl (by decide) rfl rfl (Nat.le_of_ble_eq_true rfl) ⟨Nat.le_refl _, Or.inl rfl⟩ dX9_step_172 ⟨rfl, hV120⟩ (fun r162 V163 hp164 => ?_)
                obtain ⟨rfl, hV165, hF166, hk167, hk168, hk169, hE170⟩ := hp164
                replace hb126 := hb126.trans (pf_call_eq hE170)
                change pm_J X 175 [(0, (3, 3)), (1, (0, y24))] [] 118 V163
                have hF171 := pm_fr.tr hF121 hF166 (by decide)
                have e172 : V163 1 1 = y24 := by rw [hF166 1 (by decide)]; exact e122
                have e173 : V163 1 0 = 2 := by rw [hF166 1 (by decide)]; exact e123
                have e174 : V163 3 4 = y131 := hk169.trans e132
                have e175 : V163 3 1 = y153 := hk167.trans e154
                refine pm_aload_n hC 0 (by decide) dX9_step_175 rfl ?_
                refine pm_dup hC rfl dX9_step_176 ?_
                refine pm_getf (v := y131) hC 3 fl_X9_24 rfl rfl (by decide) rfl e174 dX9_step_177 ?_
                refine pm_iconst (v := 1) hC dX9_step_180 ?_
                refine pm_iadd hC dX9_step_181 ?_
                refine pm_putf hC 3 fl_X9_24 rfl rfl rfl (by decide) rfl trivial dX9_step_182 ?_
                refine pm_goto (tgt := 129) hC dX9_step_185 (by decide) ?_
                refine pm_lvsub [0, 1] (lv' := [(0, (3, 3)), (1, (0, y24))]) rfl ?_
                exact ih130 _ (by show Int.toNat (500 - (y131 + 1)) < _; omega) (pm_up V163 3 4 (y131 + 1)) (hV165.put 3 4 (x := (y131 + 1)) (lo := 0) (hi := 500) rfl ⟨by omega, by omega⟩) (hF171.up 3 4 (y131 + 1) rfl) e172 e173 (hb15.trans (pf_val_inl hb126)) rfl
          refine pm_lvsub [1, 0] (lv' := [(0, (3, 3)), (1, (0, y24))]) rfl ?_
          exact L127 _ V108 hV110 hF111 e114 e115 hb15 rfl
        · skip
          replace hb15 := hb15.trans (if_neg (fun q => q c107))
          refine pm_aload_n hC 0 (by decide) dX9_step_112 rfl ?_
          refine pm_getf (v := y20) hC 3 fl_X9_17 rfl rfl (by decide) rfl e21 dX9_step_113 ?_
          refine pm_iconst (v := 1) hC dX9_step_116 ?_
          refine pm_iadd hC dX9_step_117 ?_
          refine pm_goto (tgt := 128) hC dX9_step_118 (by decide) ?_
          refine pm_istore_n (lv' := [(1, (0, (y20 + 1))), (0, (3, 3))]) hC dX9_step_128 (by decide) rfl ?_
          have hV178 := (((hV11.put 3 4 (x := y20) (lo := 0) (hi := 500) rfl ⟨by omega, by omega⟩).put 3 3 (x := 0) (lo := (-9223372036854775808)) (hi := 9223372036854775807) rfl ⟨by decide, by decide⟩).put 3 1 (x := y104) (lo := 0) (hi := 4) rfl ⟨by omega, by omega⟩)
          have hF179 := (((hF12.up 3 4 y20 rfl).up 3 3 0 rfl).up 3 1 y104 rfl)
          obtain ⟨V176, hv177⟩ : ∃ V, V = (pm_up (pm_up (pm_up V10 3 4 y20) 3 3 0) 3 1 y104) := ⟨_, rfl⟩
          rw [← hv177] at hV178 hF179
          rw [← hv177]
          replace hb15 := hb15.trans (pf_let_eq hv177.symm)
          have e180 : V176 3 2 = y20 := by rw [hv177]; exact e21
          have e181 : V176 3 0 = 1 := by rw [hv177]; exact e23
          have e182 : V176 1 1 = y24 := by rw [hv177]; exact e25
          have e183 : V176 1 0 = 2 := by rw [hv177]; exact e97
          have e184 : V176 3 4 = y20 := by rw [hv177]; rfl
          have e185 : V176 3 3 = 0 := by rw [hv177]; rfl
          have e186 : V176 3 1 = y104 := by rw [hv177]; rfl
          obtain ⟨B192, hB193, hb15⟩ := pf_loop hb15
          have L195 : ∀ (N197 : Nat) (V187 : pm_M), pm_ok 0 90 V187 → pm_fr [3] V0 V187 → V187 1 1 = y24 → V187 1 0 = 2 → B13 V10 = pf_val (.inr ((0 : Int), V0)) B192 V187 → (Int.toNat (500 - V187 3 4)) = N197 → pm_J X 129 [(0, (3, 3)), (1, (0, (y20 + 1)))] [] 118 V187 := by
            intro N197
            induction N197 using Nat.strongRecOn with
            | _ N197 ih198 =>
            intro V187 hV188 hF189 e190 e191 hb15 hm196
            have hb194 := congrFun hB193 V187
            refine pm_aload_n hC 0 (by decide) dX9_step_129 rfl ?_
            obtain ⟨y199, e200⟩ : ∃ y, V187 3 4 = y := ⟨_, rfl⟩
            have b201 := hV188.get 3 4 (lo := 0) (hi := 500) (by decide) (by decide) rfl
            rw [e200] at b201
            replace hb194 := hb194.trans (pf_let_eq e200)
            refine pm_getf (v := y199) hC 3 fl_X9_24 rfl rfl (by decide) rfl e200 dX9_step_130 ?_
            refine pm_iload_n hC 1 dX9_step_133 rfl ?_
            refine pm_icmp_ge (tgt := 188) hC ⟨by omega, by omega⟩ ⟨by omega, by omega⟩ dX9_step_134 (by decide) (fun c202 => ?_) (fun c202 => ?_)
            · skip
              replace hb194 := hb194.trans (if_pos c202)
              refine pm_aload_n hC 0 (by decide) dX9_step_188 rfl ?_
              obtain ⟨y203, e204⟩ : ∃ y, V187 3 1 = y := ⟨_, rfl⟩
              have b205 := hV188.get 3 1 (lo := 0) (hi := 4) (by decide) (by decide) rfl
              rw [e204] at b205
              replace hb194 := hb194.trans (pf_let_eq e204)
              refine pm_getf (v := y203) hC 3 fl_X9_13 rfl rfl (by decide) rfl e204 dX9_step_189 ?_
              refine pm_iconst (v := 1) hC dX9_step_192 ?_
              refine pm_icmp_ne (tgt := 215) hC ⟨by omega, by omega⟩ ⟨by decide, by decide⟩ dX9_step_193 (by decide) (fun c206 => ?_) (fun c206 => ?_)
              · skip
                replace hb194 := hb194.trans (if_pos c206)
                have hb15 := hb15.trans (pf_val_inr hb194)
                have hT := hT.trans (pf_val_inr hb15)
                exact pm_vret hC hR ⟨rfl, hV188, hF189, hT⟩ dX9_step_215
              · skip
                replace hb194 := hb194.trans (if_neg (fun q => q c206))
                refine pm_aload_n hC 0 (by decide) dX9_step_196 rfl ?_
                refine pm_getf (v := y199) hC 3 fl_X9_24 rfl rfl (by decide) rfl e200 dX9_step_197 ?_
                refine pm_aload_n hC 0 (by decide) dX9_step_200 rfl ?_
                obtain ⟨y207, e208⟩ : ∃ y, V187 3 2 = y := ⟨_, rfl⟩
                have b209 := hV188.get 3 2 (lo := 0) (hi := 500) (by decide) (by decide) rfl
                rw [e208] at b209
                replace hb194 := hb194.trans (pf_let_eq e208)
                refine pm_getf (v := y207) hC 3 fl_X9_17 rfl rfl (by decide) rfl e208 dX9_step_201 ?_
                refine pm_isub hC dX9_step_204 ?_
                refine pm_bipush (v := 8) hC dX9_step_205 (by decide) ?_
                refine pm_icmp_le (tgt := 215) hC ⟨by omega, by omega⟩ ⟨by decide, by decide⟩ dX9_step_207 (by decide) (fun c210 => ?_) (fun c210 => ?_)
                · skip
                  replace hb194 := hb194.trans (if_pos c210)
                  have hb15 := hb15.trans (pf_val_inr hb194)
                  have hT := hT.trans (pf_val_inr hb15)
                  exact pm_vret hC hR ⟨rfl, hV188, hF189, hT⟩ dX9_step_215
                · skip
                  replace hb194 := hb194.trans (if_neg (Int.not_le.mpr c210))
                  refine pm_aload_n hC 0 (by decide) dX9_step_210 rfl ?_
                  refine pm_lconst (x := 0) hC dX9_step_211 rfl ?_
                  refine pm_putf hC 3 fl_X9_20 rfl rfl rfl (by decide) rfl trivial dX9_step_212 ?_
                  have hb15 := hb15.trans (pf_val_inr hb194)
                  have hT := hT.trans (pf_val_inr hb15)
                  exact pm_vret hC hR ⟨rfl, (hV188.put 3 3 (x := 0) (lo := (-9223372036854775808)) (hi := 9223372036854775807) rfl ⟨by decide, by decide⟩), (hF189.up 3 3 0 rfl), hT⟩ dX9_step_215
            · skip
              replace hb194 := hb194.trans (if_neg (Int.not_le.mpr c202))
              refine pm_aload_n hC 0 (by decide) dX9_step_137 rfl ?_
              have e211 : V187 3 0 = 1 := hV188.one 3 0 (by decide) (by decide) rfl
              refine pm_getf (v := 1) hC 3 fl_X9_7 rfl rfl (by decide) rfl e211 dX9_step_138 ?_
              refine pm_getf (v := 2) hC 1 fl_X9_35 rfl rfl (by decide) rfl e191 dX9_step_141 ?_
              refine pm_aload_n hC 0 (by decide) dX9_step_144 rfl ?_
              refine pm_getf (v := y199) hC 3 fl_X9_24 rfl rfl (by decide) rfl e200 dX9_step_145 ?_
              obtain ⟨y212, e213⟩ : ∃ y, V187 2 (y199 : Int).toNat = y := ⟨_, rfl⟩
              replace hb194 := hb194.trans (pf_let_eq e213)
              have b214 := hV188.get 2 (y199 : Int).toNat (lo := 0) (hi := 255) (by decide) (show _ < 500 by omega) rfl
              rw [e213] at b214
              refine pm_iaload (len := 500) (v := y212) hC 2 rfl rfl (by decide) ⟨by omega, by omega⟩ (by decide) e213 dX9_step_148 ?_
              refine pm_callS (as := [(0, y212)]) (st := []) hC (fC_X9_sortOf y212 ⟨by omega, by omega⟩) lm_X9_39 ls_X9_sortOf (by decide) (by decide) rfl rfl (Nat.le_of_ble_eq_true rfl) ⟨Nat.le_refl _, Or.inl rfl⟩ dX9_step_149 ⟨rfl, hV188⟩ (fun r215 V216 hp217 => ?_)
              obtain ⟨y218, rfl, b219, rfl, hE220⟩ := hp217
              replace hb194 := hb194.trans (pf_call_eq hE220)
              change pm_J X 152 [(0, (3, 3)), (1, (0, (y20 + 1)))] [(0, y218)] 118 V187
              refine pm_aload_n hC 0 (by decide) dX9_step_152 rfl ?_
              obtain ⟨y221, e222⟩ : ∃ y, V187 3 1 = y := ⟨_, rfl⟩
              have b223 := hV188.get 3 1 (lo := 0) (hi := 4) (by decide) (by decide) rfl
              rw [e222] at b223
              replace hb194 := hb194.trans (pf_let_eq e222)
              refine pm_getf (v := y221) hC 3 fl_X9_13 rfl rfl (by decide) rfl e222 dX9_step_153 ?_
              refine pm_icmp_ne (tgt := 188) hC ⟨by omega, by omega⟩ ⟨by omega, by omega⟩ dX9_step_156 (by decide) (fun c224 => ?_) (fun c224 => ?_)
              · skip
                replace hb194 := hb194.trans (if_pos c224)
                refine pm_aload_n hC 0 (by decide) dX9_step_188 rfl ?_
                refine pm_getf (v := y221) hC 3 fl_X9_13 rfl rfl (by decide) rfl e222 dX9_step_189 ?_
                refine pm_iconst (v := 1) hC dX9_step_192 ?_
                refine pm_icmp_ne (tgt := 215) hC ⟨by omega, by omega⟩ ⟨by decide, by decide⟩ dX9_step_193 (by decide) (fun c225 => ?_) (fun c225 => ?_)
                · skip
                  replace hb194 := hb194.trans (if_pos c225)
                  have hb15 := hb15.trans (pf_val_inr hb194)
                  have hT := hT.trans (pf_val_inr hb15)
                  exact pm_vret hC hR ⟨rfl, hV188, hF189, hT⟩ dX9_step_215
                · skip
                  replace hb194 := hb194.trans (if_neg (fun q => q c225))
                  refine pm_aload_n hC 0 (by decide) dX9_step_196 rfl ?_
                  refine pm_getf (v := y199) hC 3 fl_X9_24 rfl rfl (by decide) rfl e200 dX9_step_197 ?_
                  refine pm_aload_n hC 0 (by decide) dX9_step_200 rfl ?_
                  obtain ⟨y226, e227⟩ : ∃ y, V187 3 2 = y := ⟨_, rfl⟩
                  have b228 := hV188.get 3 2 (lo := 0) (hi := 500) (by decide) (by decide) rfl
                  rw [e227] at b228
                  replace hb194 := hb194.trans (pf_let_eq e227)
                  refine pm_getf (v := y226) hC 3 fl_X9_17 rfl rfl (by decide) rfl e227 dX9_step_201 ?_
                  refine pm_isub hC dX9_step_204 ?_
                  refine pm_bipush (v := 8) hC dX9_step_205 (by decide) ?_
                  refine pm_icmp_le (tgt := 215) hC ⟨by omega, by omega⟩ ⟨by decide, by decide⟩ dX9_step_207 (by decide) (fun c229 => ?_) (fun c229 => ?_)
                  · skip
                    replace hb194 := hb194.trans (if_pos c229)
                    have hb15 := hb15.trans (pf_val_inr hb194)
                    have hT := hT.trans (pf_val_inr hb15)
                    exact pm_vret hC hR ⟨rfl, hV188, hF189, hT⟩ dX9_step_215
                  · skip
                    replace hb194 := hb194.trans (if_neg (Int.not_le.mpr c229))
                    refine pm_aload_n hC 0 (by decide) dX9_step_210 rfl ?_
                    refine pm_lconst (x := 0) hC dX9_step_211 rfl ?_
                    refine pm_putf hC 3 fl_X9_20 rfl rfl rfl (by decide) rfl trivial dX9_step_212 ?_
                    have hb15 := hb15.trans (pf_val_inr hb194)
                    have hT := hT.trans (pf_val_inr hb15)
                    exact pm_vret hC hR ⟨rfl, (hV188.put 3 3 (x := 0) (lo := (-9223372036854775808)) (hi := 9223372036854775807) rfl ⟨by decide, by decide⟩), (hF189.up 3 3 0 rfl), hT⟩ dX9_step_215
              · skip
                replace hb194 := hb194.trans (if_neg (fun q => q c224))
                refine pm_aload_n hC 0 (by decide) dX9_step_159 rfl ?_
                refine pm_aload_n hC 0 (by decide) dX9_step_160 rfl ?_
                refine pm_getf (v := 1) hC 3 fl_X9_7 rfl rfl (by decide) rfl e211 dX9_step_161 ?_
                refine pm_getf (v := 2) hC 1 fl_X9_35 rfl rfl (by decide) rfl e191 dX9_step_164 ?_
                refine pm_aload_n hC 0 (by decide) dX9_step_167 rfl ?_
                refine pm_getf (v := y199) hC 3 fl_X9_24 rfl rfl (by decide) rfl e200 dX9_step_168 ?_
                refine pm_iaload (len := 500) (v := y212) hC 2 rfl rfl (by decide) ⟨by omega, by omega⟩ (by decide) e213 dX9_step_171 ?_
                refine pm_callV (ci := 9) (as := [(0, y212)]) (st := []) hC 3 (fC_X9_take y212 ⟨by omega, by omega⟩) lm_X9_43 li_X9_take (by decide) (by decide) rfl rfl rfl (by decide) rfl rfl (Nat.le_of_ble_eq_true rfl) ⟨Nat.le_refl _, Or.inl rfl⟩ dX9_step_172 ⟨rfl, hV188⟩ (fun r230 V231 hp232 => ?_)
                obtain ⟨rfl, hV233, hF234, hk235, hk236, hk237, hE238⟩ := hp232
                replace hb194 := hb194.trans (pf_call_eq hE238)
                change pm_J X 175 [(0, (3, 3)), (1, (0, (y20 + 1)))] [] 118 V231
                have hF239 := pm_fr.tr hF189 hF234 (by decide)
                have e240 : V231 1 1 = y24 := by rw [hF234 1 (by decide)]; exact e190
                have e241 : V231 1 0 = 2 := by rw [hF234 1 (by decide)]; exact e191
                have e242 : V231 3 4 = y199 := hk237.trans e200
                have e243 : V231 3 1 = y221 := hk235.trans e222
                refine pm_aload_n hC 0 (by decide) dX9_step_175 rfl ?_
                refine pm_dup hC rfl dX9_step_176 ?_
                refine pm_getf (v := y199) hC 3 fl_X9_24 rfl rfl (by decide) rfl e242 dX9_step_177 ?_
                refine pm_iconst (v := 1) hC dX9_step_180 ?_
                refine pm_iadd hC dX9_step_181 ?_
                refine pm_putf hC 3 fl_X9_24 rfl rfl rfl (by decide) rfl trivial dX9_step_182 ?_
                refine pm_goto (tgt := 129) hC dX9_step_185 (by decide) ?_
                refine pm_lvsub [0, 1] (lv' := [(0, (3, 3)), (1, (0, (y20 + 1)))]) rfl ?_
                exact ih198 _ (by show Int.toNat (500 - (y199 + 1)) < _; omega) (pm_up V231 3 4 (y199 + 1)) (hV233.put 3 4 (x := (y199 + 1)) (lo := 0) (hi := 500) rfl ⟨by omega, by omega⟩) (hF239.up 3 4 (y199 + 1) rfl) e240 e241 (hb15.trans (pf_val_inl hb194)) rfl
          refine pm_lvsub [1, 0] (lv' := [(0, (3, 3)), (1, (0, (y20 + 1)))]) rfl ?_
          exact L195 _ V176 hV178 hF179 e182 e183 hb15 rfl
    · skip
      replace hb15 := hb15.trans (if_neg (Int.not_le.mpr c27))
      refine pm_aload_n hC 0 (by decide) dX9_step_22 rfl ?_
      refine pm_getf (v := 1) hC 3 fl_X9_7 rfl rfl (by decide) rfl e23 dX9_step_23 ?_
      have e244 : V10 1 0 = 2 := hV11.one 1 0 (by decide) (by decide) rfl
      refine pm_getf (v := 2) hC 1 fl_X9_35 rfl rfl (by decide) rfl e244 dX9_step_26 ?_
      refine pm_aload_n hC 0 (by decide) dX9_step_29 rfl ?_
      refine pm_getf (v := y20) hC 3 fl_X9_17 rfl rfl (by decide) rfl e21 dX9_step_30 ?_
      obtain ⟨y245, e246⟩ : ∃ y, V10 2 (y20 : Int).toNat = y := ⟨_, rfl⟩
      replace hb15 := hb15.trans (pf_let_eq e246)
      have b247 := hV11.get 2 (y20 : Int).toNat (lo := 0) (hi := 255) (by decide) (show _ < 500 by omega) rfl
      rw [e246] at b247
      refine pm_iaload (len := 500) (v := y245) hC 2 rfl rfl (by decide) ⟨by omega, by omega⟩ (by decide) e246 dX9_step_33 ?_
      refine pm_callS (as := [(0, y245)]) (st := []) hC (fC_X9_sortOf y245 ⟨by omega, by omega⟩) lm_X9_39 ls_X9_sortOf (by decide) (by decide) rfl rfl (Nat.le_of_ble_eq_true rfl) ⟨Nat.le_refl _, Or.inl rfl⟩ dX9_step_34 ⟨rfl, hV11⟩ (fun r248 V249 hp250 => ?_)
      obtain ⟨y251, rfl, b252, rfl, hE253⟩ := hp250
      replace hb15 := hb15.trans (pf_call_eq hE253)
      change pm_J X 37 [(0, (3, 3))] [(0, y251)] 118 V10
      refine pm_iconst (v := 4) hC dX9_step_37 ?_
      refine pm_icmp_ne (tgt := 54) hC ⟨by omega, by omega⟩ ⟨by decide, by decide⟩ dX9_step_38 (by decide) (fun c254 => ?_) (fun c254 => ?_)
      · skip
        replace hb15 := hb15.trans (if_pos c254)
        refine pm_aload_n hC 0 (by decide) dX9_step_54 rfl ?_
        refine pm_aload_n hC 0 (by decide) dX9_step_55 rfl ?_
        refine pm_getf (v := y20) hC 3 fl_X9_17 rfl rfl (by decide) rfl e21 dX9_step_56 ?_
        refine pm_putf hC 3 fl_X9_24 rfl rfl rfl (by decide) rfl trivial dX9_step_59 ?_
        refine pm_aload_n hC 0 (by decide) dX9_step_62 rfl ?_
        refine pm_lconst (x := 0) hC dX9_step_63 rfl ?_
        refine pm_putf hC 3 fl_X9_20 rfl rfl rfl (by decide) rfl trivial dX9_step_64 ?_
        refine pm_aload_n hC 0 (by decide) dX9_step_67 rfl ?_
        refine pm_aload_n hC 0 (by decide) dX9_step_68 rfl ?_
        refine pm_getf (v := y20) hC 3 fl_X9_17 rfl rfl (by decide) rfl e21 dX9_step_69 ?_
        refine pm_aload_n hC 0 (by decide) dX9_step_72 rfl ?_
        refine pm_getf (v := 1) hC 3 fl_X9_7 rfl rfl (by decide) rfl e23 dX9_step_73 ?_
        refine pm_getf (v := y24) hC 1 fl_X9_30 rfl rfl (by decide) rfl e25 dX9_step_76 ?_
        refine pm_icmp_ge (tgt := 100) hC ⟨by omega, by omega⟩ ⟨by omega, by omega⟩ dX9_step_79 (by decide) (fun c255 => ?_) (fun c255 => ?_)
        · skip
          replace hb15 := hb15.trans (if_pos c255)
          refine pm_iconst (v := 0) hC dX9_step_100 ?_
          refine pm_putf hC 3 fl_X9_13 rfl rfl rfl (by decide) rfl trivial dX9_step_101 ?_
          refine pm_aload_n hC 0 (by decide) dX9_step_104 rfl ?_
          refine pm_getf (v := 0) hC 3 fl_X9_13 rfl rfl (by decide) rfl rfl dX9_step_105 ?_
          refine pm_iconst (v := 3) hC dX9_step_108 ?_
          refine pm_icmp_ne (tgt := 121) hC ⟨by decide, by decide⟩ ⟨by decide, by decide⟩ dX9_step_109 (by decide) (fun c256 => ?_) (fun c256 => ?_)
          · skip
            refine pm_aload_n hC 0 (by decide) dX9_step_121 rfl ?_
            refine pm_getf (v := 1) hC 3 fl_X9_7 rfl rfl (by decide) rfl e23 dX9_step_122 ?_
            refine pm_getf (v := y24) hC 1 fl_X9_30 rfl rfl (by decide) rfl e25 dX9_step_125 ?_
            refine pm_istore_n (lv' := [(1, (0, y24)), (0, (3, 3))]) hC dX9_step_128 (by decide) rfl ?_
            have hV259 := (((hV11.put 3 4 (x := y20) (lo := 0) (hi := 500) rfl ⟨by omega, by omega⟩).put 3 3 (x := 0) (lo := (-9223372036854775808)) (hi := 9223372036854775807) rfl ⟨by decide, by decide⟩).put 3 1 (x := 0) (lo := 0) (hi := 4) rfl ⟨by decide, by decide⟩)
            have hF260 := (((hF12.up 3 4 y20 rfl).up 3 3 0 rfl).up 3 1 0 rfl)
            obtain ⟨V257, hv258⟩ : ∃ V, V = (pm_up (pm_up (pm_up V10 3 4 y20) 3 3 0) 3 1 0) := ⟨_, rfl⟩
            rw [← hv258] at hV259 hF260
            rw [← hv258]
            replace hb15 := hb15.trans (pf_let_eq hv258.symm)
            have e261 : V257 3 2 = y20 := by rw [hv258]; exact e21
            have e262 : V257 3 0 = 1 := by rw [hv258]; exact e23
            have e263 : V257 1 1 = y24 := by rw [hv258]; exact e25
            have e264 : V257 1 0 = 2 := by rw [hv258]; exact e244
            have e265 : V257 3 4 = y20 := by rw [hv258]; rfl
            have e266 : V257 3 3 = 0 := by rw [hv258]; rfl
            have e267 : V257 3 1 = 0 := by rw [hv258]; rfl
            obtain ⟨B273, hB274, hb15⟩ := pf_loop hb15
            have L276 : ∀ (N278 : Nat) (V268 : pm_M), pm_ok 0 90 V268 → pm_fr [3] V0 V268 → V268 1 1 = y24 → V268 1 0 = 2 → B13 V10 = pf_val (.inr ((0 : Int), V0)) B273 V268 → (Int.toNat (500 - V268 3 4)) = N278 → pm_J X 129 [(0, (3, 3)), (1, (0, y24))] [] 118 V268 := by
              intro N278
              induction N278 using Nat.strongRecOn with
              | _ N278 ih279 =>
              intro V268 hV269 hF270 e271 e272 hb15 hm277
              have hb275 := congrFun hB274 V268
              refine pm_aload_n hC 0 (by decide) dX9_step_129 rfl ?_
              obtain ⟨y280, e281⟩ : ∃ y, V268 3 4 = y := ⟨_, rfl⟩
              have b282 := hV269.get 3 4 (lo := 0) (hi := 500) (by decide) (by decide) rfl
              rw [e281] at b282
              replace hb275 := hb275.trans (pf_let_eq e281)
              refine pm_getf (v := y280) hC 3 fl_X9_24 rfl rfl (by decide) rfl e281 dX9_step_130 ?_
              refine pm_iload_n hC 1 dX9_step_133 rfl ?_
              refine pm_icmp_ge (tgt := 188) hC ⟨by omega, by omega⟩ ⟨by omega, by omega⟩ dX9_step_134 (by decide) (fun c283 => ?_) (fun c283 => ?_)
              · skip
                replace hb275 := hb275.trans (if_pos c283)
                refine pm_aload_n hC 0 (by decide) dX9_step_188 rfl ?_
                obtain ⟨y284, e285⟩ : ∃ y, V268 3 1 = y := ⟨_, rfl⟩
                have b286 := hV269.get 3 1 (lo := 0) (hi := 4) (by decide) (by decide) rfl
                rw [e285] at b286
                replace hb275 := hb275.trans (pf_let_eq e285)
                refine pm_getf (v := y284) hC 3 fl_X9_13 rfl rfl (by decide) rfl e285 dX9_step_189 ?_
                refine pm_iconst (v := 1) hC dX9_step_192 ?_
                refine pm_icmp_ne (tgt := 215) hC ⟨by omega, by omega⟩ ⟨by decide, by decide⟩ dX9_step_193 (by decide) (fun c287 => ?_) (fun c287 => ?_)
                · skip
                  replace hb275 := hb275.trans (if_pos c287)
                  have hb15 := hb15.trans (pf_val_inr hb275)
                  have hT := hT.trans (pf_val_inr hb15)
                  exact pm_vret hC hR ⟨rfl, hV269, hF270, hT⟩ dX9_step_215
                · skip
                  replace hb275 := hb275.trans (if_neg (fun q => q c287))
                  refine pm_aload_n hC 0 (by decide) dX9_step_196 rfl ?_
                  refine pm_getf (v := y280) hC 3 fl_X9_24 rfl rfl (by decide) rfl e281 dX9_step_197 ?_
                  refine pm_aload_n hC 0 (by decide) dX9_step_200 rfl ?_
                  obtain ⟨y288, e289⟩ : ∃ y, V268 3 2 = y := ⟨_, rfl⟩
                  have b290 := hV269.get 3 2 (lo := 0) (hi := 500) (by decide) (by decide) rfl
                  rw [e289] at b290
                  replace hb275 := hb275.trans (pf_let_eq e289)
                  refine pm_getf (v := y288) hC 3 fl_X9_17 rfl rfl (by decide) rfl e289 dX9_step_201 ?_
                  refine pm_isub hC dX9_step_204 ?_
                  refine pm_bipush (v := 8) hC dX9_step_205 (by decide) ?_
                  refine pm_icmp_le (tgt := 215) hC ⟨by omega, by omega⟩ ⟨by decide, by decide⟩ dX9_step_207 (by decide) (fun c291 => ?_) (fun c291 => ?_)
                  · skip
                    replace hb275 := hb275.trans (if_pos c291)
                    have hb15 := hb15.trans (pf_val_inr hb275)
                    have hT := hT.trans (pf_val_inr hb15)
                    exact pm_vret hC hR ⟨rfl, hV269, hF270, hT⟩ dX9_step_215
                  · skip
                    replace hb275 := hb275.trans (if_neg (Int.not_le.mpr c291))
                    refine pm_aload_n hC 0 (by decide) dX9_step_210 rfl ?_
                    refine pm_lconst (x := 0) hC dX9_step_211 rfl ?_
                    refine pm_putf hC 3 fl_X9_20 rfl rfl rfl (by decide) rfl trivial dX9_step_212 ?_
                    have hb15 := hb15.trans (pf_val_inr hb275)
                    have hT := hT.trans (pf_val_inr hb15)
                    exact pm_vret hC hR ⟨rfl, (hV269.put 3 3 (x := 0) (lo := (-9223372036854775808)) (hi := 9223372036854775807) rfl ⟨by decide, by decide⟩), (hF270.up 3 3 0 rfl), hT⟩ dX9_step_215
              · skip
                replace hb275 := hb275.trans (if_neg (Int.not_le.mpr c283))
                refine pm_aload_n hC 0 (by decide) dX9_step_137 rfl ?_
                have e292 : V268 3 0 = 1 := hV269.one 3 0 (by decide) (by decide) rfl
                refine pm_getf (v := 1) hC 3 fl_X9_7 rfl rfl (by decide) rfl e292 dX9_step_138 ?_
                refine pm_getf (v := 2) hC 1 fl_X9_35 rfl rfl (by decide) rfl e272 dX9_step_141 ?_
                refine pm_aload_n hC 0 (by decide) dX9_step_144 rfl ?_
                refine pm_getf (v := y280) hC 3 fl_X9_24 rfl rfl (by decide) rfl e281 dX9_step_145 ?_
                obtain ⟨y293, e294⟩ : ∃ y, V268 2 (y280 : Int).toNat = y := ⟨_, rfl⟩
                replace hb275 := hb275.trans (pf_let_eq e294)
                have b295 := hV269.get 2 (y280 : Int).toNat (lo := 0) (hi := 255) (by decide) (show _ < 500 by omega) rfl
                rw [e294] at b295
                refine pm_iaload (len := 500) (v := y293) hC 2 rfl rfl (by decide) ⟨by omega, by omega⟩ (by decide) e294 dX9_step_148 ?_
                refine pm_callS (as := [(0, y293)]) (st := []) hC (fC_X9_sortOf y293 ⟨by omega, by omega⟩) lm_X9_39 ls_X9_sortOf (by decide) (by decide) rfl rfl (Nat.le_of_ble_eq_true rfl) ⟨Nat.le_refl _, Or.inl rfl⟩ dX9_step_149 ⟨rfl, hV269⟩ (fun r296 V297 hp298 => ?_)
                obtain ⟨y299, rfl, b300, rfl, hE301⟩ := hp298
                replace hb275 := hb275.trans (pf_call_eq hE301)
                change pm_J X 152 [(0, (3, 3)), (1, (0, y24))] [(0, y299)] 118 V268
                refine pm_aload_n hC 0 (by decide) dX9_step_152 rfl ?_
                obtain ⟨y302, e303⟩ : ∃ y, V268 3 1 = y := ⟨_, rfl⟩
                have b304 := hV269.get 3 1 (lo := 0) (hi := 4) (by decide) (by decide) rfl
                rw [e303] at b304
                replace hb275 := hb275.trans (pf_let_eq e303)
                refine pm_getf (v := y302) hC 3 fl_X9_13 rfl rfl (by decide) rfl e303 dX9_step_153 ?_
                refine pm_icmp_ne (tgt := 188) hC ⟨by omega, by omega⟩ ⟨by omega, by omega⟩ dX9_step_156 (by decide) (fun c305 => ?_) (fun c305 => ?_)
                · skip
                  replace hb275 := hb275.trans (if_pos c305)
                  refine pm_aload_n hC 0 (by decide) dX9_step_188 rfl ?_
                  refine pm_getf (v := y302) hC 3 fl_X9_13 rfl rfl (by decide) rfl e303 dX9_step_189 ?_
                  refine pm_iconst (v := 1) hC dX9_step_192 ?_
                  refine pm_icmp_ne (tgt := 215) hC ⟨by omega, by omega⟩ ⟨by decide, by decide⟩ dX9_step_193 (by decide) (fun c306 => ?_) (fun c306 => ?_)
                  · skip
                    replace hb275 := hb275.trans (if_pos c306)
                    have hb15 := hb15.trans (pf_val_inr hb275)
                    have hT := hT.trans (pf_val_inr hb15)
                    exact pm_vret hC hR ⟨rfl, hV269, hF270, hT⟩ dX9_step_215
                  · skip
                    replace hb275 := hb275.trans (if_neg (fun q => q c306))
                    refine pm_aload_n hC 0 (by decide) dX9_step_196 rfl ?_
                    refine pm_getf (v := y280) hC 3 fl_X9_24 rfl rfl (by decide) rfl e281 dX9_step_197 ?_
                    refine pm_aload_n hC 0 (by decide) dX9_step_200 rfl ?_
                    obtain ⟨y307, e308⟩ : ∃ y, V268 3 2 = y := ⟨_, rfl⟩
                    have b309 := hV269.get 3 2 (lo := 0) (hi := 500) (by decide) (by decide) rfl
                    rw [e308] at b309
                    replace hb275 := hb275.trans (pf_let_eq e308)
                    refine pm_getf (v := y307) hC 3 fl_X9_17 rfl rfl (by decide) rfl e308 dX9_step_201 ?_
                    refine pm_isub hC dX9_step_204 ?_
                    refine pm_bipush (v := 8) hC dX9_step_205 (by decide) ?_
                    refine pm_icmp_le (tgt := 215) hC ⟨by omega, by omega⟩ ⟨by decide, by decide⟩ dX9_step_207 (by decide) (fun c310 => ?_) (fun c310 => ?_)
                    · skip
                      replace hb275 := hb275.trans (if_pos c310)
                      have hb15 := hb15.trans (pf_val_inr hb275)
                      have hT := hT.trans (pf_val_inr hb15)
                      exact pm_vret hC hR ⟨rfl, hV269, hF270, hT⟩ dX9_step_215
                    · skip
                      replace hb275 := hb275.trans (if_neg (Int.not_le.mpr c310))
                      refine pm_aload_n hC 0 (by decide) dX9_step_210 rfl ?_
                      refine pm_lconst (x := 0) hC dX9_step_211 rfl ?_
                      refine pm_putf hC 3 fl_X9_20 rfl rfl rfl (by decide) rfl trivial dX9_step_212 ?_
                      have hb15 := hb15.trans (pf_val_inr hb275)
                      have hT := hT.trans (pf_val_inr hb15)
                      exact pm_vret hC hR ⟨rfl, (hV269.put 3 3 (x := 0) (lo := (-9223372036854775808)) (hi := 9223372036854775807) rfl ⟨by decide, by decide⟩), (hF270.up 3 3 0 rfl), hT⟩ dX9_step_215
                · skip
                  replace hb275 := hb275.trans (if_neg (fun q => q c305))
                  refine pm_aload_n hC 0 (by decide) dX9_step_159 rfl ?_
                  refine pm_aload_n hC 0 (by decide) dX9_step_160 rfl ?_
                  refine pm_getf (v := 1) hC 3 fl_X9_7 rfl rfl (by decide) rfl e292 dX9_step_161 ?_
                  refine pm_getf (v := 2) hC 1 fl_X9_35 rfl rfl (by decide) rfl e272 dX9_step_164 ?_
                  refine pm_aload_n hC 0 (by decide) dX9_step_167 rfl ?_
                  refine pm_getf (v := y280) hC 3 fl_X9_24 rfl rfl (by decide) rfl e281 dX9_step_168 ?_
                  refine pm_iaload (len := 500) (v := y293) hC 2 rfl rfl (by decide) ⟨by omega, by omega⟩ (by decide) e294 dX9_step_171 ?_
                  refine pm_callV (ci := 9) (as := [(0, y293)]) (st := []) hC 3 (fC_X9_take y293 ⟨by omega, by omega⟩) lm_X9_43 li_X9_take (by decide) (by decide) rfl rfl rfl (by decide) rfl rfl (Nat.le_of_ble_eq_true rfl) ⟨Nat.le_refl _, Or.inl rfl⟩ dX9_step_172 ⟨rfl, hV269⟩ (fun r311 V312 hp313 => ?_)
                  obtain ⟨rfl, hV314, hF315, hk316, hk317, hk318, hE319⟩ := hp313
                  replace hb275 := hb275.trans (pf_call_eq hE319)
                  change pm_J X 175 [(0, (3, 3)), (1, (0, y24))] [] 118 V312
                  have hF320 := pm_fr.tr hF270 hF315 (by decide)
                  have e321 : V312 1 1 = y24 := by rw [hF315 1 (by decide)]; exact e271
                  have e322 : V312 1 0 = 2 := by rw [hF315 1 (by decide)]; exact e272
                  have e323 : V312 3 4 = y280 := hk318.trans e281
                  have e324 : V312 3 1 = y302 := hk316.trans e303
                  refine pm_aload_n hC 0 (by decide) dX9_step_175 rfl ?_
                  refine pm_dup hC rfl dX9_step_176 ?_
                  refine pm_getf (v := y280) hC 3 fl_X9_24 rfl rfl (by decide) rfl e323 dX9_step_177 ?_
                  refine pm_iconst (v := 1) hC dX9_step_180 ?_
                  refine pm_iadd hC dX9_step_181 ?_
                  refine pm_putf hC 3 fl_X9_24 rfl rfl rfl (by decide) rfl trivial dX9_step_182 ?_
                  refine pm_goto (tgt := 129) hC dX9_step_185 (by decide) ?_
                  refine pm_lvsub [0, 1] (lv' := [(0, (3, 3)), (1, (0, y24))]) rfl ?_
                  exact ih279 _ (by show Int.toNat (500 - (y280 + 1)) < _; omega) (pm_up V312 3 4 (y280 + 1)) (hV314.put 3 4 (x := (y280 + 1)) (lo := 0) (hi := 500) rfl ⟨by omega, by omega⟩) (hF320.up 3 4 (y280 + 1) rfl) e321 e322 (hb15.trans (pf_val_inl hb275)) rfl
            refine pm_lvsub [1, 0] (lv' := [(0, (3, 3)), (1, (0, y24))]) rfl ?_
            exact L276 _ V257 hV259 hF260 e263 e264 hb15 rfl
          · skip
            exfalso; omega
        · skip
          replace hb15 := hb15.trans (if_neg (Int.not_le.mpr c255))
          refine pm_aload_n hC 0 (by decide) dX9_step_82 rfl ?_
          refine pm_getf (v := 1) hC 3 fl_X9_7 rfl rfl (by decide) rfl e23 dX9_step_83 ?_
          refine pm_getf (v := 2) hC 1 fl_X9_35 rfl rfl (by decide) rfl e244 dX9_step_86 ?_
          refine pm_aload_n hC 0 (by decide) dX9_step_89 rfl ?_
          refine pm_getf (v := y20) hC 3 fl_X9_17 rfl rfl (by decide) rfl e21 dX9_step_90 ?_
          refine pm_iaload (len := 500) (v := y245) hC 2 rfl rfl (by decide) ⟨by omega, by omega⟩ (by decide) e246 dX9_step_93 ?_
          refine pm_callS (as := [(0, y245)]) (st := [(3, 3)]) hC (fC_X9_sortOf y245 ⟨by omega, by omega⟩) lm_X9_39 ls_X9_sortOf (by decide) (by decide) rfl rfl (Nat.le_of_ble_eq_true rfl) ⟨Nat.le_refl _, Or.inl rfl⟩ dX9_step_94 ⟨rfl, ((hV11.put 3 4 (x := y20) (lo := 0) (hi := 500) rfl ⟨by omega, by omega⟩).put 3 3 (x := 0) (lo := (-9223372036854775808)) (hi := 9223372036854775807) rfl ⟨by decide, by decide⟩)⟩ (fun r325 V326 hp327 => ?_)
          obtain ⟨y328, rfl, b329, rfl, hE330⟩ := hp327
          replace hb15 := hb15.trans (pf_call_eq hE330)
          change pm_J X 97 [(0, (3, 3))] [(0, y328), (3, 3)] 118 (pm_up (pm_up V10 3 4 y20) 3 3 0)
          refine pm_goto (tgt := 101) hC dX9_step_97 (by decide) ?_
          refine pm_putf hC 3 fl_X9_13 rfl rfl rfl (by decide) rfl trivial dX9_step_101 ?_
          refine pm_aload_n hC 0 (by decide) dX9_step_104 rfl ?_
          refine pm_getf (v := y328) hC 3 fl_X9_13 rfl rfl (by decide) rfl rfl dX9_step_105 ?_
          refine pm_iconst (v := 3) hC dX9_step_108 ?_
          refine pm_icmp_ne (tgt := 121) hC ⟨by omega, by omega⟩ ⟨by decide, by decide⟩ dX9_step_109 (by decide) (fun c331 => ?_) (fun c331 => ?_)
          · skip
            replace hb15 := hb15.trans (if_pos c331)
            refine pm_aload_n hC 0 (by decide) dX9_step_121 rfl ?_
            refine pm_getf (v := 1) hC 3 fl_X9_7 rfl rfl (by decide) rfl e23 dX9_step_122 ?_
            refine pm_getf (v := y24) hC 1 fl_X9_30 rfl rfl (by decide) rfl e25 dX9_step_125 ?_
            refine pm_istore_n (lv' := [(1, (0, y24)), (0, (3, 3))]) hC dX9_step_128 (by decide) rfl ?_
            have hV334 := (((hV11.put 3 4 (x := y20) (lo := 0) (hi := 500) rfl ⟨by omega, by omega⟩).put 3 3 (x := 0) (lo := (-9223372036854775808)) (hi := 9223372036854775807) rfl ⟨by decide, by decide⟩).put 3 1 (x := y328) (lo := 0) (hi := 4) rfl ⟨by omega, by omega⟩)
            have hF335 := (((hF12.up 3 4 y20 rfl).up 3 3 0 rfl).up 3 1 y328 rfl)
            obtain ⟨V332, hv333⟩ : ∃ V, V = (pm_up (pm_up (pm_up V10 3 4 y20) 3 3 0) 3 1 y328) := ⟨_, rfl⟩
            rw [← hv333] at hV334 hF335
            rw [← hv333]
            replace hb15 := hb15.trans (pf_let_eq hv333.symm)
            have e336 : V332 3 2 = y20 := by rw [hv333]; exact e21
            have e337 : V332 3 0 = 1 := by rw [hv333]; exact e23
            have e338 : V332 1 1 = y24 := by rw [hv333]; exact e25
            have e339 : V332 1 0 = 2 := by rw [hv333]; exact e244
            have e340 : V332 3 4 = y20 := by rw [hv333]; rfl
            have e341 : V332 3 3 = 0 := by rw [hv333]; rfl
            have e342 : V332 3 1 = y328 := by rw [hv333]; rfl
            obtain ⟨B348, hB349, hb15⟩ := pf_loop hb15
            have L351 : ∀ (N353 : Nat) (V343 : pm_M), pm_ok 0 90 V343 → pm_fr [3] V0 V343 → V343 1 1 = y24 → V343 1 0 = 2 → B13 V10 = pf_val (.inr ((0 : Int), V0)) B348 V343 → (Int.toNat (500 - V343 3 4)) = N353 → pm_J X 129 [(0, (3, 3)), (1, (0, y24))] [] 118 V343 := by
              intro N353
              induction N353 using Nat.strongRecOn with
              | _ N353 ih354 =>
              intro V343 hV344 hF345 e346 e347 hb15 hm352
              have hb350 := congrFun hB349 V343
              refine pm_aload_n hC 0 (by decide) dX9_step_129 rfl ?_
              obtain ⟨y355, e356⟩ : ∃ y, V343 3 4 = y := ⟨_, rfl⟩
              have b357 := hV344.get 3 4 (lo := 0) (hi := 500) (by decide) (by decide) rfl
              rw [e356] at b357
              replace hb350 := hb350.trans (pf_let_eq e356)
              refine pm_getf (v := y355) hC 3 fl_X9_24 rfl rfl (by decide) rfl e356 dX9_step_130 ?_
              refine pm_iload_n hC 1 dX9_step_133 rfl ?_
              refine pm_icmp_ge (tgt := 188) hC ⟨by omega, by omega⟩ ⟨by omega, by omega⟩ dX9_step_134 (by decide) (fun c358 => ?_) (fun c358 => ?_)
              · skip
                replace hb350 := hb350.trans (if_pos c358)
                refine pm_aload_n hC 0 (by decide) dX9_step_188 rfl ?_
                obtain ⟨y359, e360⟩ : ∃ y, V343 3 1 = y := ⟨_, rfl⟩
                have b361 := hV344.get 3 1 (lo := 0) (hi := 4) (by decide) (by decide) rfl
                rw [e360] at b361
                replace hb350 := hb350.trans (pf_let_eq e360)
                refine pm_getf (v := y359) hC 3 fl_X9_13 rfl rfl (by decide) rfl e360 dX9_step_189 ?_
                refine pm_iconst (v := 1) hC dX9_step_192 ?_
                refine pm_icmp_ne (tgt := 215) hC ⟨by omega, by omega⟩ ⟨by decide, by decide⟩ dX9_step_193 (by decide) (fun c362 => ?_) (fun c362 => ?_)
                · skip
                  replace hb350 := hb350.trans (if_pos c362)
                  have hb15 := hb15.trans (pf_val_inr hb350)
                  have hT := hT.trans (pf_val_inr hb15)
                  exact pm_vret hC hR ⟨rfl, hV344, hF345, hT⟩ dX9_step_215
                · skip
                  replace hb350 := hb350.trans (if_neg (fun q => q c362))
                  refine pm_aload_n hC 0 (by decide) dX9_step_196 rfl ?_
                  refine pm_getf (v := y355) hC 3 fl_X9_24 rfl rfl (by decide) rfl e356 dX9_step_197 ?_
                  refine pm_aload_n hC 0 (by decide) dX9_step_200 rfl ?_
                  obtain ⟨y363, e364⟩ : ∃ y, V343 3 2 = y := ⟨_, rfl⟩
                  have b365 := hV344.get 3 2 (lo := 0) (hi := 500) (by decide) (by decide) rfl
                  rw [e364] at b365
                  replace hb350 := hb350.trans (pf_let_eq e364)
                  refine pm_getf (v := y363) hC 3 fl_X9_17 rfl rfl (by decide) rfl e364 dX9_step_201 ?_
                  refine pm_isub hC dX9_step_204 ?_
                  refine pm_bipush (v := 8) hC dX9_step_205 (by decide) ?_
                  refine pm_icmp_le (tgt := 215) hC ⟨by omega, by omega⟩ ⟨by decide, by decide⟩ dX9_step_207 (by decide) (fun c366 => ?_) (fun c366 => ?_)
                  · skip
                    replace hb350 := hb350.trans (if_pos c366)
                    have hb15 := hb15.trans (pf_val_inr hb350)
                    have hT := hT.trans (pf_val_inr hb15)
                    exact pm_vret hC hR ⟨rfl, hV344, hF345, hT⟩ dX9_step_215
                  · skip
                    replace hb350 := hb350.trans (if_neg (Int.not_le.mpr c366))
                    refine pm_aload_n hC 0 (by decide) dX9_step_210 rfl ?_
                    refine pm_lconst (x := 0) hC dX9_step_211 rfl ?_
                    refine pm_putf hC 3 fl_X9_20 rfl rfl rfl (by decide) rfl trivial dX9_step_212 ?_
                    have hb15 := hb15.trans (pf_val_inr hb350)
                    have hT := hT.trans (pf_val_inr hb15)
                    exact pm_vret hC hR ⟨rfl, (hV344.put 3 3 (x := 0) (lo := (-9223372036854775808)) (hi := 9223372036854775807) rfl ⟨by decide, by decide⟩), (hF345.up 3 3 0 rfl), hT⟩ dX9_step_215
              · skip
                replace hb350 := hb350.trans (if_neg (Int.not_le.mpr c358))
                refine pm_aload_n hC 0 (by decide) dX9_step_137 rfl ?_
                have e367 : V343 3 0 = 1 := hV344.one 3 0 (by decide) (by decide) rfl
                refine pm_getf (v := 1) hC 3 fl_X9_7 rfl rfl (by decide) rfl e367 dX9_step_138 ?_
                refine pm_getf (v := 2) hC 1 fl_X9_35 rfl rfl (by decide) rfl e347 dX9_step_141 ?_
                refine pm_aload_n hC 0 (by decide) dX9_step_144 rfl ?_
                refine pm_getf (v := y355) hC 3 fl_X9_24 rfl rfl (by decide) rfl e356 dX9_step_145 ?_
                obtain ⟨y368, e369⟩ : ∃ y, V343 2 (y355 : Int).toNat = y := ⟨_, rfl⟩
                replace hb350 := hb350.trans (pf_let_eq e369)
                have b370 := hV344.get 2 (y355 : Int).toNat (lo := 0) (hi := 255) (by decide) (show _ < 500 by omega) rfl
                rw [e369] at b370
                refine pm_iaload (len := 500) (v := y368) hC 2 rfl rfl (by decide) ⟨by omega, by omega⟩ (by decide) e369 dX9_step_148 ?_
                refine pm_callS (as := [(0, y368)]) (st := []) hC (fC_X9_sortOf y368 ⟨by omega, by omega⟩) lm_X9_39 ls_X9_sortOf (by decide) (by decide) rfl rfl (Nat.le_of_ble_eq_true rfl) ⟨Nat.le_refl _, Or.inl rfl⟩ dX9_step_149 ⟨rfl, hV344⟩ (fun r371 V372 hp373 => ?_)
                obtain ⟨y374, rfl, b375, rfl, hE376⟩ := hp373
                replace hb350 := hb350.trans (pf_call_eq hE376)
                change pm_J X 152 [(0, (3, 3)), (1, (0, y24))] [(0, y374)] 118 V343
                refine pm_aload_n hC 0 (by decide) dX9_step_152 rfl ?_
                obtain ⟨y377, e378⟩ : ∃ y, V343 3 1 = y := ⟨_, rfl⟩
                have b379 := hV344.get 3 1 (lo := 0) (hi := 4) (by decide) (by decide) rfl
                rw [e378] at b379
                replace hb350 := hb350.trans (pf_let_eq e378)
                refine pm_getf (v := y377) hC 3 fl_X9_13 rfl rfl (by decide) rfl e378 dX9_step_153 ?_
                refine pm_icmp_ne (tgt := 188) hC ⟨by omega, by omega⟩ ⟨by omega, by omega⟩ dX9_step_156 (by decide) (fun c380 => ?_) (fun c380 => ?_)
                · skip
                  replace hb350 := hb350.trans (if_pos c380)
                  refine pm_aload_n hC 0 (by decide) dX9_step_188 rfl ?_
                  refine pm_getf (v := y377) hC 3 fl_X9_13 rfl rfl (by decide) rfl e378 dX9_step_189 ?_
                  refine pm_iconst (v := 1) hC dX9_step_192 ?_
                  refine pm_icmp_ne (tgt := 215) hC ⟨by omega, by omega⟩ ⟨by decide, by decide⟩ dX9_step_193 (by decide) (fun c381 => ?_) (fun c381 => ?_)
                  · skip
                    replace hb350 := hb350.trans (if_pos c381)
                    have hb15 := hb15.trans (pf_val_inr hb350)
                    have hT := hT.trans (pf_val_inr hb15)
                    exact pm_vret hC hR ⟨rfl, hV344, hF345, hT⟩ dX9_step_215
                  · skip
                    replace hb350 := hb350.trans (if_neg (fun q => q c381))
                    refine pm_aload_n hC 0 (by decide) dX9_step_196 rfl ?_
                    refine pm_getf (v := y355) hC 3 fl_X9_24 rfl rfl (by decide) rfl e356 dX9_step_197 ?_
                    refine pm_aload_n hC 0 (by decide) dX9_step_200 rfl ?_
                    obtain ⟨y382, e383⟩ : ∃ y, V343 3 2 = y := ⟨_, rfl⟩
                    have b384 := hV344.get 3 2 (lo := 0) (hi := 500) (by decide) (by decide) rfl
                    rw [e383] at b384
                    replace hb350 := hb350.trans (pf_let_eq e383)
                    refine pm_getf (v := y382) hC 3 fl_X9_17 rfl rfl (by decide) rfl e383 dX9_step_201 ?_
                    refine pm_isub hC dX9_step_204 ?_
                    refine pm_bipush (v := 8) hC dX9_step_205 (by decide) ?_
                    refine pm_icmp_le (tgt := 215) hC ⟨by omega, by omega⟩ ⟨by decide, by decide⟩ dX9_step_207 (by decide) (fun c385 => ?_) (fun c385 => ?_)
                    · skip
                      replace hb350 := hb350.trans (if_pos c385)
                      have hb15 := hb15.trans (pf_val_inr hb350)
                      have hT := hT.trans (pf_val_inr hb15)
                      exact pm_vret hC hR ⟨rfl, hV344, hF345, hT⟩ dX9_step_215
                    · skip
                      replace hb350 := hb350.trans (if_neg (Int.not_le.mpr c385))
                      refine pm_aload_n hC 0 (by decide) dX9_step_210 rfl ?_
                      refine pm_lconst (x := 0) hC dX9_step_211 rfl ?_
                      refine pm_putf hC 3 fl_X9_20 rfl rfl rfl (by decide) rfl trivial dX9_step_212 ?_
                      have hb15 := hb15.trans (pf_val_inr hb350)
                      have hT := hT.trans (pf_val_inr hb15)
                      exact pm_vret hC hR ⟨rfl, (hV344.put 3 3 (x := 0) (lo := (-9223372036854775808)) (hi := 9223372036854775807) rfl ⟨by decide, by decide⟩), (hF345.up 3 3 0 rfl), hT⟩ dX9_step_215
                · skip
                  replace hb350 := hb350.trans (if_neg (fun q => q c380))
                  refine pm_aload_n hC 0 (by decide) dX9_step_159 rfl ?_
                  refine pm_aload_n hC 0 (by decide) dX9_step_160 rfl ?_
                  refine pm_getf (v := 1) hC 3 fl_X9_7 rfl rfl (by decide) rfl e367 dX9_step_161 ?_
                  refine pm_getf (v := 2) hC 1 fl_X9_35 rfl rfl (by decide) rfl e347 dX9_step_164 ?_
                  refine pm_aload_n hC 0 (by decide) dX9_step_167 rfl ?_
                  refine pm_getf (v := y355) hC 3 fl_X9_24 rfl rfl (by decide) rfl e356 dX9_step_168 ?_
                  refine pm_iaload (len := 500) (v := y368) hC 2 rfl rfl (by decide) ⟨by omega, by omega⟩ (by decide) e369 dX9_step_171 ?_
                  refine pm_callV (ci := 9) (as := [(0, y368)]) (st := []) hC 3 (fC_X9_take y368 ⟨by omega, by omega⟩) lm_X9_43 li_X9_take (by decide) (by decide) rfl rfl rfl (by decide) rfl rfl (Nat.le_of_ble_eq_true rfl) ⟨Nat.le_refl _, Or.inl rfl⟩ dX9_step_172 ⟨rfl, hV344⟩ (fun r386 V387 hp388 => ?_)
                  obtain ⟨rfl, hV389, hF390, hk391, hk392, hk393, hE394⟩ := hp388
                  replace hb350 := hb350.trans (pf_call_eq hE394)
                  change pm_J X 175 [(0, (3, 3)), (1, (0, y24))] [] 118 V387
                  have hF395 := pm_fr.tr hF345 hF390 (by decide)
                  have e396 : V387 1 1 = y24 := by rw [hF390 1 (by decide)]; exact e346
                  have e397 : V387 1 0 = 2 := by rw [hF390 1 (by decide)]; exact e347
                  have e398 : V387 3 4 = y355 := hk393.trans e356
                  have e399 : V387 3 1 = y377 := hk391.trans e378
                  refine pm_aload_n hC 0 (by decide) dX9_step_175 rfl ?_
                  refine pm_dup hC rfl dX9_step_176 ?_
                  refine pm_getf (v := y355) hC 3 fl_X9_24 rfl rfl (by decide) rfl e398 dX9_step_177 ?_
                  refine pm_iconst (v := 1) hC dX9_step_180 ?_
                  refine pm_iadd hC dX9_step_181 ?_
                  refine pm_putf hC 3 fl_X9_24 rfl rfl rfl (by decide) rfl trivial dX9_step_182 ?_
                  refine pm_goto (tgt := 129) hC dX9_step_185 (by decide) ?_
                  refine pm_lvsub [0, 1] (lv' := [(0, (3, 3)), (1, (0, y24))]) rfl ?_
                  exact ih354 _ (by show Int.toNat (500 - (y355 + 1)) < _; omega) (pm_up V387 3 4 (y355 + 1)) (hV389.put 3 4 (x := (y355 + 1)) (lo := 0) (hi := 500) rfl ⟨by omega, by omega⟩) (hF395.up 3 4 (y355 + 1) rfl) e396 e397 (hb15.trans (pf_val_inl hb350)) rfl
            refine pm_lvsub [1, 0] (lv' := [(0, (3, 3)), (1, (0, y24))]) rfl ?_
            exact L351 _ V332 hV334 hF335 e338 e339 hb15 rfl
          · skip
            replace hb15 := hb15.trans (if_neg (fun q => q c331))
            refine pm_aload_n hC 0 (by decide) dX9_step_112 rfl ?_
            refine pm_getf (v := y20) hC 3 fl_X9_17 rfl rfl (by decide) rfl e21 dX9_step_113 ?_
            refine pm_iconst (v := 1) hC dX9_step_116 ?_
            refine pm_iadd hC dX9_step_117 ?_
            refine pm_goto (tgt := 128) hC dX9_step_118 (by decide) ?_
            refine pm_istore_n (lv' := [(1, (0, (y20 + 1))), (0, (3, 3))]) hC dX9_step_128 (by decide) rfl ?_
            have hV402 := (((hV11.put 3 4 (x := y20) (lo := 0) (hi := 500) rfl ⟨by omega, by omega⟩).put 3 3 (x := 0) (lo := (-9223372036854775808)) (hi := 9223372036854775807) rfl ⟨by decide, by decide⟩).put 3 1 (x := y328) (lo := 0) (hi := 4) rfl ⟨by omega, by omega⟩)
            have hF403 := (((hF12.up 3 4 y20 rfl).up 3 3 0 rfl).up 3 1 y328 rfl)
            obtain ⟨V400, hv401⟩ : ∃ V, V = (pm_up (pm_up (pm_up V10 3 4 y20) 3 3 0) 3 1 y328) := ⟨_, rfl⟩
            rw [← hv401] at hV402 hF403
            rw [← hv401]
            replace hb15 := hb15.trans (pf_let_eq hv401.symm)
            have e404 : V400 3 2 = y20 := by rw [hv401]; exact e21
            have e405 : V400 3 0 = 1 := by rw [hv401]; exact e23
            have e406 : V400 1 1 = y24 := by rw [hv401]; exact e25
            have e407 : V400 1 0 = 2 := by rw [hv401]; exact e244
            have e408 : V400 3 4 = y20 := by rw [hv401]; rfl
            have e409 : V400 3 3 = 0 := by rw [hv401]; rfl
            have e410 : V400 3 1 = y328 := by rw [hv401]; rfl
            obtain ⟨B416, hB417, hb15⟩ := pf_loop hb15
            have L419 : ∀ (N421 : Nat) (V411 : pm_M), pm_ok 0 90 V411 → pm_fr [3] V0 V411 → V411 1 1 = y24 → V411 1 0 = 2 → B13 V10 = pf_val (.inr ((0 : Int), V0)) B416 V411 → (Int.toNat (500 - V411 3 4)) = N421 → pm_J X 129 [(0, (3, 3)), (1, (0, (y20 + 1)))] [] 118 V411 := by
              intro N421
              induction N421 using Nat.strongRecOn with
              | _ N421 ih422 =>
              intro V411 hV412 hF413 e414 e415 hb15 hm420
              have hb418 := congrFun hB417 V411
              refine pm_aload_n hC 0 (by decide) dX9_step_129 rfl ?_
              obtain ⟨y423, e424⟩ : ∃ y, V411 3 4 = y := ⟨_, rfl⟩
              have b425 := hV412.get 3 4 (lo := 0) (hi := 500) (by decide) (by decide) rfl
              rw [e424] at b425
              replace hb418 := hb418.trans (pf_let_eq e424)
              refine pm_getf (v := y423) hC 3 fl_X9_24 rfl rfl (by decide) rfl e424 dX9_step_130 ?_
              refine pm_iload_n hC 1 dX9_step_133 rfl ?_
              refine pm_icmp_ge (tgt := 188) hC ⟨by omega, by omega⟩ ⟨by omega, by omega⟩ dX9_step_134 (by decide) (fun c426 => ?_) (fun c426 => ?_)
              · skip
                replace hb418 := hb418.trans (if_pos c426)
                refine pm_aload_n hC 0 (by decide) dX9_step_188 rfl ?_
                obtain ⟨y427, e428⟩ : ∃ y, V411 3 1 = y := ⟨_, rfl⟩
                have b429 := hV412.get 3 1 (lo := 0) (hi := 4) (by decide) (by decide) rfl
                rw [e428] at b429
                replace hb418 := hb418.trans (pf_let_eq e428)
                refine pm_getf (v := y427) hC 3 fl_X9_13 rfl rfl (by decide) rfl e428 dX9_step_189 ?_
                refine pm_iconst (v := 1) hC dX9_step_192 ?_
                refine pm_icmp_ne (tgt := 215) hC ⟨by omega, by omega⟩ ⟨by decide, by decide⟩ dX9_step_193 (by decide) (fun c430 => ?_) (fun c430 => ?_)
                · skip
                  replace hb418 := hb418.trans (if_pos c430)
                  have hb15 := hb15.trans (pf_val_inr hb418)
                  have hT := hT.trans (pf_val_inr hb15)
                  exact pm_vret hC hR ⟨rfl, hV412, hF413, hT⟩ dX9_step_215
                · skip
                  replace hb418 := hb418.trans (if_neg (fun q => q c430))
                  refine pm_aload_n hC 0 (by decide) dX9_step_196 rfl ?_
                  refine pm_getf (v := y423) hC 3 fl_X9_24 rfl rfl (by decide) rfl e424 dX9_step_197 ?_
                  refine pm_aload_n hC 0 (by decide) dX9_step_200 rfl ?_
                  obtain ⟨y431, e432⟩ : ∃ y, V411 3 2 = y := ⟨_, rfl⟩
                  have b433 := hV412.get 3 2 (lo := 0) (hi := 500) (by decide) (by decide) rfl
                  rw [e432] at b433
                  replace hb418 := hb418.trans (pf_let_eq e432)
                  refine pm_getf (v := y431) hC 3 fl_X9_17 rfl rfl (by decide) rfl e432 dX9_step_201 ?_
                  refine pm_isub hC dX9_step_204 ?_
                  refine pm_bipush (v := 8) hC dX9_step_205 (by decide) ?_
                  refine pm_icmp_le (tgt := 215) hC ⟨by omega, by omega⟩ ⟨by decide, by decide⟩ dX9_step_207 (by decide) (fun c434 => ?_) (fun c434 => ?_)
                  · skip
                    replace hb418 := hb418.trans (if_pos c434)
                    have hb15 := hb15.trans (pf_val_inr hb418)
                    have hT := hT.trans (pf_val_inr hb15)
                    exact pm_vret hC hR ⟨rfl, hV412, hF413, hT⟩ dX9_step_215
                  · skip
                    replace hb418 := hb418.trans (if_neg (Int.not_le.mpr c434))
                    refine pm_aload_n hC 0 (by decide) dX9_step_210 rfl ?_
                    refine pm_lconst (x := 0) hC dX9_step_211 rfl ?_
                    refine pm_putf hC 3 fl_X9_20 rfl rfl rfl (by decide) rfl trivial dX9_step_212 ?_
                    have hb15 := hb15.trans (pf_val_inr hb418)
                    have hT := hT.trans (pf_val_inr hb15)
                    exact pm_vret hC hR ⟨rfl, (hV412.put 3 3 (x := 0) (lo := (-9223372036854775808)) (hi := 9223372036854775807) rfl ⟨by decide, by decide⟩), (hF413.up 3 3 0 rfl), hT⟩ dX9_step_215
              · skip
                replace hb418 := hb418.trans (if_neg (Int.not_le.mpr c426))
                refine pm_aload_n hC 0 (by decide) dX9_step_137 rfl ?_
                have e435 : V411 3 0 = 1 := hV412.one 3 0 (by decide) (by decide) rfl
                refine pm_getf (v := 1) hC 3 fl_X9_7 rfl rfl (by decide) rfl e435 dX9_step_138 ?_
                refine pm_getf (v := 2) hC 1 fl_X9_35 rfl rfl (by decide) rfl e415 dX9_step_141 ?_
                refine pm_aload_n hC 0 (by decide) dX9_step_144 rfl ?_
                refine pm_getf (v := y423) hC 3 fl_X9_24 rfl rfl (by decide) rfl e424 dX9_step_145 ?_
                obtain ⟨y436, e437⟩ : ∃ y, V411 2 (y423 : Int).toNat = y := ⟨_, rfl⟩
                replace hb418 := hb418.trans (pf_let_eq e437)
                have b438 := hV412.get 2 (y423 : Int).toNat (lo := 0) (hi := 255) (by decide) (show _ < 500 by omega) rfl
                rw [e437] at b438
                refine pm_iaload (len := 500) (v := y436) hC 2 rfl rfl (by decide) ⟨by omega, by omega⟩ (by decide) e437 dX9_step_148 ?_
                refine pm_callS (as := [(0, y436)]) (st := []) hC (fC_X9_sortOf y436 ⟨by omega, by omega⟩) lm_X9_39 ls_X9_sortOf (by decide) (by decide) rfl rfl (Nat.le_of_ble_eq_true rfl) ⟨Nat.le_refl _, Or.inl rfl⟩ dX9_step_149 ⟨rfl, hV412⟩ (fun r439 V440 hp441 => ?_)
                obtain ⟨y442, rfl, b443, rfl, hE444⟩ := hp441
                replace hb418 := hb418.trans (pf_call_eq hE444)
                change pm_J X 152 [(0, (3, 3)), (1, (0, (y20 + 1)))] [(0, y442)] 118 V411
                refine pm_aload_n hC 0 (by decide) dX9_step_152 rfl ?_
                obtain ⟨y445, e446⟩ : ∃ y, V411 3 1 = y := ⟨_, rfl⟩
                have b447 := hV412.get 3 1 (lo := 0) (hi := 4) (by decide) (by decide) rfl
                rw [e446] at b447
                replace hb418 := hb418.trans (pf_let_eq e446)
                refine pm_getf (v := y445) hC 3 fl_X9_13 rfl rfl (by decide) rfl e446 dX9_step_153 ?_
                refine pm_icmp_ne (tgt := 188) hC ⟨by omega, by omega⟩ ⟨by omega, by omega⟩ dX9_step_156 (by decide) (fun c448 => ?_) (fun c448 => ?_)
                · skip
                  replace hb418 := hb418.trans (if_pos c448)
                  refine pm_aload_n hC 0 (by decide) dX9_step_188 rfl ?_
                  refine pm_getf (v := y445) hC 3 fl_X9_13 rfl rfl (by decide) rfl e446 dX9_step_189 ?_
                  refine pm_iconst (v := 1) hC dX9_step_192 ?_
                  refine pm_icmp_ne (tgt := 215) hC ⟨by omega, by omega⟩ ⟨by decide, by decide⟩ dX9_step_193 (by decide) (fun c449 => ?_) (fun c449 => ?_)
                  · skip
                    replace hb418 := hb418.trans (if_pos c449)
                    have hb15 := hb15.trans (pf_val_inr hb418)
                    have hT := hT.trans (pf_val_inr hb15)
                    exact pm_vret hC hR ⟨rfl, hV412, hF413, hT⟩ dX9_step_215
                  · skip
                    replace hb418 := hb418.trans (if_neg (fun q => q c449))
                    refine pm_aload_n hC 0 (by decide) dX9_step_196 rfl ?_
                    refine pm_getf (v := y423) hC 3 fl_X9_24 rfl rfl (by decide) rfl e424 dX9_step_197 ?_
                    refine pm_aload_n hC 0 (by decide) dX9_step_200 rfl ?_
                    obtain ⟨y450, e451⟩ : ∃ y, V411 3 2 = y := ⟨_, rfl⟩
                    have b452 := hV412.get 3 2 (lo := 0) (hi := 500) (by decide) (by decide) rfl
                    rw [e451] at b452
                    replace hb418 := hb418.trans (pf_let_eq e451)
                    refine pm_getf (v := y450) hC 3 fl_X9_17 rfl rfl (by decide) rfl e451 dX9_step_201 ?_
                    refine pm_isub hC dX9_step_204 ?_
                    refine pm_bipush (v := 8) hC dX9_step_205 (by decide) ?_
                    refine pm_icmp_le (tgt := 215) hC ⟨by omega, by omega⟩ ⟨by decide, by decide⟩ dX9_step_207 (by decide) (fun c453 => ?_) (fun c453 => ?_)
                    · skip
                      replace hb418 := hb418.trans (if_pos c453)
                      have hb15 := hb15.trans (pf_val_inr hb418)
                      have hT := hT.trans (pf_val_inr hb15)
                      exact pm_vret hC hR ⟨rfl, hV412, hF413, hT⟩ dX9_step_215
                    · skip
                      replace hb418 := hb418.trans (if_neg (Int.not_le.mpr c453))
                      refine pm_aload_n hC 0 (by decide) dX9_step_210 rfl ?_
                      refine pm_lconst (x := 0) hC dX9_step_211 rfl ?_
                      refine pm_putf hC 3 fl_X9_20 rfl rfl rfl (by decide) rfl trivial dX9_step_212 ?_
                      have hb15 := hb15.trans (pf_val_inr hb418)
                      have hT := hT.trans (pf_val_inr hb15)
                      exact pm_vret hC hR ⟨rfl, (hV412.put 3 3 (x := 0) (lo := (-9223372036854775808)) (hi := 9223372036854775807) rfl ⟨by decide, by decide⟩), (hF413.up 3 3 0 rfl), hT⟩ dX9_step_215
                · skip
                  replace hb418 := hb418.trans (if_neg (fun q => q c448))
                  refine pm_aload_n hC 0 (by decide) dX9_step_159 rfl ?_
                  refine pm_aload_n hC 0 (by decide) dX9_step_160 rfl ?_
                  refine pm_getf (v := 1) hC 3 fl_X9_7 rfl rfl (by decide) rfl e435 dX9_step_161 ?_
                  refine pm_getf (v := 2) hC 1 fl_X9_35 rfl rfl (by decide) rfl e415 dX9_step_164 ?_
                  refine pm_aload_n hC 0 (by decide) dX9_step_167 rfl ?_
                  refine pm_getf (v := y423) hC 3 fl_X9_24 rfl rfl (by decide) rfl e424 dX9_step_168 ?_
                  refine pm_iaload (len := 500) (v := y436) hC 2 rfl rfl (by decide) ⟨by omega, by omega⟩ (by decide) e437 dX9_step_171 ?_
                  refine pm_callV (ci := 9) (as := [(0, y436)]) (st := []) hC 3 (fC_X9_take y436 ⟨by omega, by omega⟩) lm_X9_43 li_X9_take (by decide) (by decide) rfl rfl rfl (by decide) rfl rfl (Nat.le_of_ble_eq_true rfl) ⟨Nat.le_refl _, Or.inl rfl⟩ dX9_step_172 ⟨rfl, hV412⟩ (fun r454 V455 hp456 => ?_)
                  obtain ⟨rfl, hV457, hF458, hk459, hk460, hk461, hE462⟩ := hp456
                  replace hb418 := hb418.trans (pf_call_eq hE462)
                  change pm_J X 175 [(0, (3, 3)), (1, (0, (y20 + 1)))] [] 118 V455
                  have hF463 := pm_fr.tr hF413 hF458 (by decide)
                  have e464 : V455 1 1 = y24 := by rw [hF458 1 (by decide)]; exact e414
                  have e465 : V455 1 0 = 2 := by rw [hF458 1 (by decide)]; exact e415
                  have e466 : V455 3 4 = y423 := hk461.trans e424
                  have e467 : V455 3 1 = y445 := hk459.trans e446
                  refine pm_aload_n hC 0 (by decide) dX9_step_175 rfl ?_
                  refine pm_dup hC rfl dX9_step_176 ?_
                  refine pm_getf (v := y423) hC 3 fl_X9_24 rfl rfl (by decide) rfl e466 dX9_step_177 ?_
                  refine pm_iconst (v := 1) hC dX9_step_180 ?_
                  refine pm_iadd hC dX9_step_181 ?_
                  refine pm_putf hC 3 fl_X9_24 rfl rfl rfl (by decide) rfl trivial dX9_step_182 ?_
                  refine pm_goto (tgt := 129) hC dX9_step_185 (by decide) ?_
                  refine pm_lvsub [0, 1] (lv' := [(0, (3, 3)), (1, (0, (y20 + 1)))]) rfl ?_
                  exact ih422 _ (by show Int.toNat (500 - (y423 + 1)) < _; omega) (pm_up V455 3 4 (y423 + 1)) (hV457.put 3 4 (x := (y423 + 1)) (lo := 0) (hi := 500) rfl ⟨by omega, by omega⟩) (hF463.up 3 4 (y423 + 1) rfl) e464 e465 (hb15.trans (pf_val_inl hb418)) rfl
            refine pm_lvsub [1, 0] (lv' := [(0, (3, 3)), (1, (0, (y20 + 1)))]) rfl ?_
            exact L419 _ V400 hV402 hF403 e406 e407 hb15 rfl
      · skip
        replace hb15 := hb15.trans (if_neg (fun q => q c254))
        refine pm_aload_n hC 0 (by decide) dX9_step_41 rfl ?_
        refine pm_dup hC rfl dX9_step_42 ?_
        refine pm_getf (v := y20) hC 3 fl_X9_17 rfl rfl (by decide) rfl e21 dX9_step_43 ?_
        refine pm_iconst (v := 1) hC dX9_step_46 ?_
        refine pm_iadd hC dX9_step_47 ?_
        refine pm_putf hC 3 fl_X9_17 rfl rfl rfl (by decide) rfl trivial dX9_step_48 ?_
        refine pm_goto (tgt := 8) hC dX9_step_51 (by decide) ?_
        refine pm_lvsub [0] (lv' := [(0, (3, 3))]) rfl ?_
        exact ih19 _ (by show Int.toNat (500 - (y20 + 1)) < _; omega) (pm_up V10 3 2 (y20 + 1)) (hV11.put 3 2 (x := (y20 + 1)) (lo := 0) (hi := 500) rfl ⟨by omega, by omega⟩) (hF12.up 3 2 (y20 + 1) rfl) (hT.trans (pf_val_inl hb15)) rfl
  refine pm_lvsub [0] (lv' := [(0, (3, 3))]) rfl ?_
  exact L16 _ V4 hV6 hF7 hT rfl
set_option maxHeartbeats 4000000 in
set_option maxRecDepth 100000 in
theorem fC_X9_begin  : pm_K 3 yX9_begin cX9_begin 1 none (fun av V => av = [(3, 3)] ∧ pm_ok 0 90 V) (fun _ V r V' => r = none ∧ pm_ok 0 90 V' ∧ pm_fr [3] V V' ∧ F_X9_begin  V = (0, V')) := by
  refine pm_MT.of (by decide) ⟨Nat.le_refl _, by decide⟩ (fun av V h => by rw [h.1]; exact (by decide : pm_words [(3, 0)] ≤ 1)) ?_
  rintro X av V0 hC - hR ⟨rfl, hV0⟩
  change pm_J X 0 [(0, (3, 3))] [] 118 V0
  have hT := F_X9_begin_eq  V0
  refine pm_aload_n hC 0 (by decide) dX9_begin_0 rfl ?_
  refine pm_iconst (v := 0) hC dX9_begin_1 ?_
  refine pm_putf hC 3 fl_X9_24 rfl rfl rfl (by decide) rfl trivial dX9_begin_2 ?_
  refine pm_aload_n hC 0 (by decide) dX9_begin_5 rfl ?_
  refine pm_callV (ci := 9) (as := []) (st := []) hC 3 fC_X9_step lm_X9_27 li_X9_step (by decide) (by decide) rfl rfl rfl (by decide) rfl rfl (Nat.le_of_ble_eq_true rfl) ⟨Nat.le_refl _, Or.inl rfl⟩ dX9_begin_6 ⟨rfl, (hV0.put 3 4 (x := 0) (lo := 0) (hi := 500) rfl ⟨by decide, by decide⟩)⟩ (fun r1 V2 hp3 => ?_)
  obtain ⟨rfl, hV4, hF5, hE6⟩ := hp3
  replace hT := hT.trans (pf_call_eq hE6)
  change pm_J X 9 [(0, (3, 3))] [] 118 V2
  have hF7 := pm_fr.tr ((pm_fr.rf (ws := [3]) (V := V0)).up 3 4 0 rfl) hF5 (by decide)
  exact pm_vret hC hR ⟨rfl, hV4, hF7, hT⟩ dX9_begin_9
set_option maxHeartbeats 4000000 in
set_option maxRecDepth 100000 in
theorem fC_X9_isWord (a1 : Int) (h0 : (-9223372036854775808) ≤ a1 ∧ a1 ≤ 9223372036854775807) : pm_K 1 yX9_isWord cX9_isWord 3 (some .boolean) (fun av V => av = [(3, 3), (1, a1)] ∧ pm_ok 0 90 V) (fun _ V r V' => ∃ y, r = some (0, y) ∧ (0 ≤ y ∧ y ≤ 1) ∧ V = V' ∧ F_X9_isWord a1 V = (y, V)) := by
  refine pm_MT.of (by decide) ⟨Nat.le_refl _, by decide⟩ (fun av V h => by rw [h.1]; exact (by decide : pm_words [(3, 0), (1, 0)] ≤ 3)) ?_
  rintro X av V0 hC - hR ⟨rfl, hV0⟩
  change pm_J X 0 [(0, (3, 3)), (1, (1, a1))] [] 118 V0
  have hT := F_X9_isWord_eq a1 V0
  refine pm_aload_n hC 0 (by decide) dX9_isWord_0 rfl ?_
  obtain ⟨y1, e2⟩ : ∃ y, V0 3 1 = y := ⟨_, rfl⟩
  have b3 := hV0.get 3 1 (lo := 0) (hi := 4) (by decide) (by decide) rfl
  rw [e2] at b3
  replace hT := hT.trans (pf_let_eq e2)
  refine pm_getf (v := y1) hC 3 fl_X9_13 rfl rfl (by decide) rfl e2 dX9_isWord_1 ?_
  refine pm_iconst (v := 1) hC dX9_isWord_4 ?_
  refine pm_icmp_ne (tgt := 21) hC ⟨by omega, by omega⟩ ⟨by decide, by decide⟩ dX9_isWord_5 (by decide) (fun c4 => ?_) (fun c4 => ?_)
  · skip
    replace hT := hT.trans (if_pos c4)
    refine pm_iconst (v := 0) hC dX9_isWord_21 ?_
    exact pm_iret hC hR (pm_narZ (by omega)) ⟨0, rfl, ⟨by omega, by omega⟩, rfl, hT⟩ dX9_isWord_22
  · skip
    replace hT := hT.trans (if_neg (fun q => q c4))
    refine pm_aload_n hC 0 (by decide) dX9_isWord_8 rfl ?_
    obtain ⟨y5, e6⟩ : ∃ y, V0 3 3 = y := ⟨_, rfl⟩
    have b7 := hV0.get 3 3 (lo := (-9223372036854775808)) (hi := 9223372036854775807) (by decide) (by decide) rfl
    rw [e6] at b7
    replace hT := hT.trans (pf_let_eq e6)
    refine pm_getf (v := y5) hC 3 fl_X9_20 rfl rfl (by decide) rfl e6 dX9_isWord_9 ?_
    refine pm_lload_n hC 1 dX9_isWord_12 rfl ?_
    refine pm_lcmp hC ⟨by omega, by omega⟩ ⟨by omega, by omega⟩ dX9_isWord_13 (fun y8 b9 => ?_)
    replace hT := hT.trans (pf_let_eq (pm_cmp_u b9))
    refine pm_if_ne (tgt := 21) hC ⟨by omega, by omega⟩ dX9_isWord_14 (by decide) (fun c10 => ?_) (fun c10 => ?_)
    · skip
      replace hT := hT.trans (if_pos c10)
      refine pm_iconst (v := 0) hC dX9_isWord_21 ?_
      exact pm_iret hC hR (pm_narZ (by omega)) ⟨0, rfl, ⟨by omega, by omega⟩, rfl, hT⟩ dX9_isWord_22
    · skip
      replace hT := hT.trans (if_neg (fun q => q c10))
      refine pm_iconst (v := 1) hC dX9_isWord_17 ?_
      refine pm_goto (tgt := 22) hC dX9_isWord_18 (by decide) ?_
      exact pm_iret hC hR (pm_narZ (by omega)) ⟨1, rfl, ⟨by omega, by omega⟩, rfl, hT⟩ dX9_isWord_22
set_option maxHeartbeats 4000000 in
set_option maxRecDepth 100000 in
theorem fC_X9_isSign (a1 : Int) (h0 : 0 ≤ a1 ∧ a1 ≤ 255) : pm_K 1 yX9_isSign cX9_isSign 2 (some .boolean) (fun av V => av = [(3, 3), (0, a1)] ∧ pm_ok 0 90 V) (fun _ V r V' => ∃ y, r = some (0, y) ∧ (0 ≤ y ∧ y ≤ 1 ∧ (y = 1 → V 3 3 = a1)) ∧ V = V' ∧ F_X9_isSign a1 V = (y, V)) := by
  refine pm_MT.of (by decide) ⟨Nat.le_refl _, by decide⟩ (fun av V h => by rw [h.1]; exact (by decide : pm_words [(3, 0), (0, 0)] ≤ 2)) ?_
  rintro X av V0 hC - hR ⟨rfl, hV0⟩
  change pm_J X 0 [(0, (3, 3)), (1, (0, a1))] [] 118 V0
  have hT := F_X9_isSign_eq a1 V0
  refine pm_aload_n hC 0 (by decide) dX9_isSign_0 rfl ?_
  obtain ⟨y1, e2⟩ : ∃ y, V0 3 1 = y := ⟨_, rfl⟩
  have b3 := hV0.get 3 1 (lo := 0) (hi := 4) (by decide) (by decide) rfl
  rw [e2] at b3
  replace hT := hT.trans (pf_let_eq e2)
  refine pm_getf (v := y1) hC 3 fl_X9_13 rfl rfl (by decide) rfl e2 dX9_isSign_1 ?_
  refine pm_iconst (v := 3) hC dX9_isSign_4 ?_
  refine pm_icmp_ne (tgt := 22) hC ⟨by omega, by omega⟩ ⟨by decide, by decide⟩ dX9_isSign_5 (by decide) (fun c4 => ?_) (fun c4 => ?_)
  · skip
    replace hT := hT.trans (if_pos c4)
    refine pm_iconst (v := 0) hC dX9_isSign_22 ?_
    exact pm_iret hC hR (pm_narZ (by omega)) ⟨0, rfl, ⟨by omega, by omega, by omega⟩, rfl, hT⟩ dX9_isSign_23
  · skip
    replace hT := hT.trans (if_neg (fun q => q c4))
    refine pm_aload_n hC 0 (by decide) dX9_isSign_8 rfl ?_
    obtain ⟨y5, e6⟩ : ∃ y, V0 3 3 = y := ⟨_, rfl⟩
    have b7 := hV0.get 3 3 (lo := (-9223372036854775808)) (hi := 9223372036854775807) (by decide) (by decide) rfl
    rw [e6] at b7
    replace hT := hT.trans (pf_let_eq e6)
    refine pm_getf (v := y5) hC 3 fl_X9_20 rfl rfl (by decide) rfl e6 dX9_isSign_9 ?_
    refine pm_iload_n hC 1 dX9_isSign_12 rfl ?_
    refine pm_i2l hC ⟨by omega, by omega⟩ dX9_isSign_13 ?_
    refine pm_lcmp hC ⟨by omega, by omega⟩ ⟨by omega, by omega⟩ dX9_isSign_14 (fun y8 b9 => ?_)
    replace hT := hT.trans (pf_let_eq (pm_cmp_u b9))
    refine pm_if_ne (tgt := 22) hC ⟨by omega, by omega⟩ dX9_isSign_15 (by decide) (fun c10 => ?_) (fun c10 => ?_)
    · skip
      replace hT := hT.trans (if_pos c10)
      refine pm_iconst (v := 0) hC dX9_isSign_22 ?_
      exact pm_iret hC hR (pm_narZ (by omega)) ⟨0, rfl, ⟨by omega, by omega, by omega⟩, rfl, hT⟩ dX9_isSign_23
    · skip
      replace hT := hT.trans (if_neg (fun q => q c10))
      refine pm_iconst (v := 1) hC dX9_isSign_18 ?_
      refine pm_goto (tgt := 23) hC dX9_isSign_19 (by decide) ?_
      exact pm_iret hC hR (pm_narZ (by omega)) ⟨1, rfl, ⟨by omega, by omega, by omega⟩, rfl, hT⟩ dX9_isSign_23
set_option maxHeartbeats 4000000 in
set_option maxRecDepth 100000 in
theorem fC_X9_isNumber (a1 a2 : Int) (h0 : 0 ≤ a1 ∧ a1 ≤ 9999) (h1 : 0 ≤ a2 ∧ a2 ≤ 9999) : pm_K 1 yX9_isNumber cX9_isNumber 3 (some .boolean) (fun av V => av = [(3, 3), (0, a1), (0, a2)] ∧ pm_ok 0 90 V) (fun _ V r V' => ∃ y, r = some (0, y) ∧ (0 ≤ y ∧ y ≤ 1 ∧ (y = 1 → a1 ≤ V 3 3 ∧ V 3 3 ≤ a2)) ∧ V = V' ∧ F_X9_isNumber a1 a2 V = (y, V)) := by
  refine pm_MT.of (by decide) ⟨Nat.le_refl _, by decide⟩ (fun av V h => by rw [h.1]; exact (by decide : pm_words [(3, 0), (0, 0), (0, 0)] ≤ 3)) ?_
  rintro X av V0 hC - hR ⟨rfl, hV0⟩
  change pm_J X 0 [(0, (3, 3)), (1, (0, a1)), (2, (0, a2))] [] 118 V0
  have hT := F_X9_isNumber_eq a1 a2 V0
  refine pm_aload_n hC 0 (by decide) dX9_isNumber_0 rfl ?_
  obtain ⟨y1, e2⟩ : ∃ y, V0 3 1 = y := ⟨_, rfl⟩
  have b3 := hV0.get 3 1 (lo := 0) (hi := 4) (by decide) (by decide) rfl
  rw [e2] at b3
  replace hT := hT.trans (pf_let_eq e2)
  refine pm_getf (v := y1) hC 3 fl_X9_13 rfl rfl (by decide) rfl e2 dX9_isNumber_1 ?_
  refine pm_iconst (v := 2) hC dX9_isNumber_4 ?_
  refine pm_icmp_ne (tgt := 32) hC ⟨by omega, by omega⟩ ⟨by decide, by decide⟩ dX9_isNumber_5 (by decide) (fun c4 => ?_) (fun c4 => ?_)
  · skip
    replace hT := hT.trans (if_pos c4)
    refine pm_iconst (v := 0) hC dX9_isNumber_32 ?_
    exact pm_iret hC hR (pm_narZ (by omega)) ⟨0, rfl, ⟨by omega, by omega, by omega⟩, rfl, hT⟩ dX9_isNumber_33
  · skip
    replace hT := hT.trans (if_neg (fun q => q c4))
    refine pm_aload_n hC 0 (by decide) dX9_isNumber_8 rfl ?_
    obtain ⟨y5, e6⟩ : ∃ y, V0 3 3 = y := ⟨_, rfl⟩
    have b7 := hV0.get 3 3 (lo := (-9223372036854775808)) (hi := 9223372036854775807) (by decide) (by decide) rfl
    rw [e6] at b7
    replace hT := hT.trans (pf_let_eq e6)
    refine pm_getf (v := y5) hC 3 fl_X9_20 rfl rfl (by decide) rfl e6 dX9_isNumber_9 ?_
    refine pm_iload_n hC 1 dX9_isNumber_12 rfl ?_
    refine pm_i2l hC ⟨by omega, by omega⟩ dX9_isNumber_13 ?_
    refine pm_lcmp hC ⟨by omega, by omega⟩ ⟨by omega, by omega⟩ dX9_isNumber_14 (fun y8 b9 => ?_)
    replace hT := hT.trans (pf_let_eq (pm_cmp_u b9))
    refine pm_if_lt (tgt := 32) hC ⟨by omega, by omega⟩ dX9_isNumber_15 (by decide) (fun c10 => ?_) (fun c10 => ?_)
    · skip
      replace hT := hT.trans (if_pos c10)
      refine pm_iconst (v := 0) hC dX9_isNumber_32 ?_
      exact pm_iret hC hR (pm_narZ (by omega)) ⟨0, rfl, ⟨by omega, by omega, by omega⟩, rfl, hT⟩ dX9_isNumber_33
    · skip
      replace hT := hT.trans (if_neg (Int.not_lt.mpr c10))
      refine pm_aload_n hC 0 (by decide) dX9_isNumber_18 rfl ?_
      refine pm_getf (v := y5) hC 3 fl_X9_20 rfl rfl (by decide) rfl e6 dX9_isNumber_19 ?_
      refine pm_iload_n hC 2 dX9_isNumber_22 rfl ?_
      refine pm_i2l hC ⟨by omega, by omega⟩ dX9_isNumber_23 ?_
      refine pm_lcmp hC ⟨by omega, by omega⟩ ⟨by omega, by omega⟩ dX9_isNumber_24 (fun y11 b12 => ?_)
      replace hT := hT.trans (pf_let_eq (pm_cmp_u b12))
      refine pm_if_gt (tgt := 32) hC ⟨by omega, by omega⟩ dX9_isNumber_25 (by decide) (fun c13 => ?_) (fun c13 => ?_)
      · skip
        replace hT := hT.trans (if_pos c13)
        refine pm_iconst (v := 0) hC dX9_isNumber_32 ?_
        exact pm_iret hC hR (pm_narZ (by omega)) ⟨0, rfl, ⟨by omega, by omega, by omega⟩, rfl, hT⟩ dX9_isNumber_33
      · skip
        replace hT := hT.trans (if_neg (Int.not_lt.mpr c13))
        refine pm_iconst (v := 1) hC dX9_isNumber_28 ?_
        refine pm_goto (tgt := 33) hC dX9_isNumber_29 (by decide) ?_
        exact pm_iret hC hR (pm_narZ (by omega)) ⟨1, rfl, ⟨by omega, by omega, by omega⟩, rfl, hT⟩ dX9_isNumber_33
set_option maxHeartbeats 4000000 in
set_option maxRecDepth 100000 in
theorem fC_X9_isName  : pm_K 1 yX9_isName cX9_isName 2 (some .boolean) (fun av V => av = [(3, 3)] ∧ pm_ok 0 90 V) (fun _ V r V' => ∃ y, r = some (0, y) ∧ (0 ≤ y ∧ y ≤ 1) ∧ V = V' ∧ F_X9_isName  V = (y, V)) := by
  refine pm_MT.of (by decide) ⟨Nat.le_refl _, by decide⟩ (fun av V h => by rw [h.1]; exact (by decide : pm_words [(3, 0)] ≤ 2)) ?_
  rintro X av V0 hC - hR ⟨rfl, hV0⟩
  change pm_J X 0 [(0, (3, 3))] [] 118 V0
  have hT := F_X9_isName_eq  V0
  refine pm_aload_n hC 0 (by decide) dX9_isName_0 rfl ?_
  obtain ⟨y1, e2⟩ : ∃ y, V0 3 3 = y := ⟨_, rfl⟩
  have b3 := hV0.get 3 3 (lo := (-9223372036854775808)) (hi := 9223372036854775807) (by decide) (by decide) rfl
  rw [e2] at b3
  replace hT := hT.trans (pf_let_eq e2)
  refine pm_getf (v := y1) hC 3 fl_X9_20 rfl rfl (by decide) rfl e2 dX9_isName_1 ?_
  refine pm_ldc2 (v := 495791205988) hC 3019 dX9_isName_4 (by decide +kernel) ?_
  refine pm_lcmp hC ⟨by omega, by omega⟩ ⟨by decide, by decide⟩ dX9_isName_7 (fun y4 b5 => ?_)
  replace hT := hT.trans (pf_let_eq (pm_cmp_u b5))
  refine pm_if_eq (tgt := 66) hC ⟨by omega, by omega⟩ dX9_isName_8 (by decide) (fun c6 => ?_) (fun c6 => ?_)
  · skip
    replace hT := hT.trans (if_pos c6)
    refine pm_iconst (v := 1) hC dX9_isName_66 ?_
    refine pm_goto (tgt := 71) hC dX9_isName_67 (by decide) ?_
    refine pm_istore_n (lv' := [(1, (0, 1)), (0, (3, 3))]) hC dX9_isName_71 (by decide) rfl ?_
    refine pm_aload_n hC 1 (by decide) dX9_isName_72 rfl ?_
    obtain ⟨y7, e8⟩ : ∃ y, V0 3 1 = y := ⟨_, rfl⟩
    have b9 := hV0.get 3 1 (lo := 0) (hi := 4) (by decide) (by decide) rfl
    rw [e8] at b9
    replace hT := hT.trans (pf_let_eq e8)
    refine pm_getf (v := y7) hC 3 fl_X9_13 rfl rfl (by decide) rfl e8 dX9_isName_73 ?_
    refine pm_iconst (v := 1) hC dX9_isName_76 ?_
    refine pm_icmp_ne (tgt := 97) hC ⟨by omega, by omega⟩ ⟨by decide, by decide⟩ dX9_isName_77 (by decide) (fun c10 => ?_) (fun c10 => ?_)
    · skip
      replace hT := hT.trans (if_pos c10)
      refine pm_iconst (v := 0) hC dX9_isName_97 ?_
      exact pm_iret hC hR (pm_narZ (by omega)) ⟨0, rfl, ⟨by omega, by omega⟩, rfl, hT⟩ dX9_isName_98
    · skip
      replace hT := hT.trans (if_neg (fun q => q c10))
      refine pm_aload_n hC 1 (by decide) dX9_isName_80 rfl ?_
      refine pm_getf (v := y1) hC 3 fl_X9_20 rfl rfl (by decide) rfl e2 dX9_isName_81 ?_
      refine pm_lconst (x := 0) hC dX9_isName_84 rfl ?_
      refine pm_lcmp hC ⟨by omega, by omega⟩ ⟨by decide, by decide⟩ dX9_isName_85 (fun y11 b12 => ?_)
      replace hT := hT.trans (pf_let_eq (pm_cmp_u b12))
      refine pm_if_eq (tgt := 97) hC ⟨by omega, by omega⟩ dX9_isName_86 (by decide) (fun c13 => ?_) (fun c13 => ?_)
      · skip
        replace hT := hT.trans (if_pos c13)
        exfalso; omega
      · skip
        replace hT := hT.trans (if_neg c13)
        refine pm_iload_n hC 0 dX9_isName_89 rfl ?_
        refine pm_if_ne (tgt := 97) hC ⟨by decide, by decide⟩ dX9_isName_90 (by decide) (fun c14 => ?_) (fun c14 => ?_)
        · skip
          refine pm_iconst (v := 0) hC dX9_isName_97 ?_
          exact pm_iret hC hR (pm_narZ (by omega)) ⟨0, rfl, ⟨by omega, by omega⟩, rfl, hT⟩ dX9_isName_98
        · skip
          exfalso; omega
  · skip
    replace hT := hT.trans (if_neg c6)
    refine pm_aload_n hC 0 (by decide) dX9_isName_11 rfl ?_
    refine pm_getf (v := y1) hC 3 fl_X9_20 rfl rfl (by decide) rfl e2 dX9_isName_12 ?_
    refine pm_ldc2 (v := 508675318629) hC 3020 dX9_isName_15 (by decide +kernel) ?_
    refine pm_lcmp hC ⟨by omega, by omega⟩ ⟨by decide, by decide⟩ dX9_isName_18 (fun y15 b16 => ?_)
    replace hT := hT.trans (pf_let_eq (pm_cmp_u b16))
    refine pm_if_eq (tgt := 66) hC ⟨by omega, by omega⟩ dX9_isName_19 (by decide) (fun c17 => ?_) (fun c17 => ?_)
    · skip
      replace hT := hT.trans (if_pos c17)
      refine pm_iconst (v := 1) hC dX9_isName_66 ?_
      refine pm_goto (tgt := 71) hC dX9_isName_67 (by decide) ?_
      refine pm_istore_n (lv' := [(1, (0, 1)), (0, (3, 3))]) hC dX9_isName_71 (by decide) rfl ?_
      refine pm_aload_n hC 1 (by decide) dX9_isName_72 rfl ?_
      obtain ⟨y18, e19⟩ : ∃ y, V0 3 1 = y := ⟨_, rfl⟩
      have b20 := hV0.get 3 1 (lo := 0) (hi := 4) (by decide) (by decide) rfl
      rw [e19] at b20
      replace hT := hT.trans (pf_let_eq e19)
      refine pm_getf (v := y18) hC 3 fl_X9_13 rfl rfl (by decide) rfl e19 dX9_isName_73 ?_
      refine pm_iconst (v := 1) hC dX9_isName_76 ?_
      refine pm_icmp_ne (tgt := 97) hC ⟨by omega, by omega⟩ ⟨by decide, by decide⟩ dX9_isName_77 (by decide) (fun c21 => ?_) (fun c21 => ?_)
      · skip
        replace hT := hT.trans (if_pos c21)
        refine pm_iconst (v := 0) hC dX9_isName_97 ?_
        exact pm_iret hC hR (pm_narZ (by omega)) ⟨0, rfl, ⟨by omega, by omega⟩, rfl, hT⟩ dX9_isName_98
      · skip
        replace hT := hT.trans (if_neg (fun q => q c21))
        refine pm_aload_n hC 1 (by decide) dX9_isName_80 rfl ?_
        refine pm_getf (v := y1) hC 3 fl_X9_20 rfl rfl (by decide) rfl e2 dX9_isName_81 ?_
        refine pm_lconst (x := 0) hC dX9_isName_84 rfl ?_
        refine pm_lcmp hC ⟨by omega, by omega⟩ ⟨by decide, by decide⟩ dX9_isName_85 (fun y22 b23 => ?_)
        replace hT := hT.trans (pf_let_eq (pm_cmp_u b23))
        refine pm_if_eq (tgt := 97) hC ⟨by omega, by omega⟩ dX9_isName_86 (by decide) (fun c24 => ?_) (fun c24 => ?_)
        · skip
          replace hT := hT.trans (if_pos c24)
          exfalso; omega
        · skip
          replace hT := hT.trans (if_neg c24)
          refine pm_iload_n hC 0 dX9_isName_89 rfl ?_
          refine pm_if_ne (tgt := 97) hC ⟨by decide, by decide⟩ dX9_isName_90 (by decide) (fun c25 => ?_) (fun c25 => ?_)
          · skip
            refine pm_iconst (v := 0) hC dX9_isName_97 ?_
            exact pm_iret hC hR (pm_narZ (by omega)) ⟨0, rfl, ⟨by omega, by omega⟩, rfl, hT⟩ dX9_isName_98
          · skip
            exfalso; omega
    · skip
      replace hT := hT.trans (if_neg c17)
      refine pm_aload_n hC 0 (by decide) dX9_isName_22 rfl ?_
      refine pm_getf (v := y1) hC 3 fl_X9_20 rfl rfl (by decide) rfl e2 dX9_isName_23 ?_
      refine pm_ldc2 (v := 1717658469) hC 3021 dX9_isName_26 (by decide +kernel) ?_
      refine pm_lcmp hC ⟨by omega, by omega⟩ ⟨by decide, by decide⟩ dX9_isName_29 (fun y26 b27 => ?_)
      replace hT := hT.trans (pf_let_eq (pm_cmp_u b27))
      refine pm_if_eq (tgt := 66) hC ⟨by omega, by omega⟩ dX9_isName_30 (by decide) (fun c28 => ?_) (fun c28 => ?_)
      · skip
        replace hT := hT.trans (if_pos c28)
        refine pm_iconst (v := 1) hC dX9_isName_66 ?_
        refine pm_goto (tgt := 71) hC dX9_isName_67 (by decide) ?_
        refine pm_istore_n (lv' := [(1, (0, 1)), (0, (3, 3))]) hC dX9_isName_71 (by decide) rfl ?_
        refine pm_aload_n hC 1 (by decide) dX9_isName_72 rfl ?_
        obtain ⟨y29, e30⟩ : ∃ y, V0 3 1 = y := ⟨_, rfl⟩
        have b31 := hV0.get 3 1 (lo := 0) (hi := 4) (by decide) (by decide) rfl
        rw [e30] at b31
        replace hT := hT.trans (pf_let_eq e30)
        refine pm_getf (v := y29) hC 3 fl_X9_13 rfl rfl (by decide) rfl e30 dX9_isName_73 ?_
        refine pm_iconst (v := 1) hC dX9_isName_76 ?_
        refine pm_icmp_ne (tgt := 97) hC ⟨by omega, by omega⟩ ⟨by decide, by decide⟩ dX9_isName_77 (by decide) (fun c32 => ?_) (fun c32 => ?_)
        · skip
          replace hT := hT.trans (if_pos c32)
          refine pm_iconst (v := 0) hC dX9_isName_97 ?_
          exact pm_iret hC hR (pm_narZ (by omega)) ⟨0, rfl, ⟨by omega, by omega⟩, rfl, hT⟩ dX9_isName_98
        · skip
          replace hT := hT.trans (if_neg (fun q => q c32))
          refine pm_aload_n hC 1 (by decide) dX9_isName_80 rfl ?_
          refine pm_getf (v := y1) hC 3 fl_X9_20 rfl rfl (by decide) rfl e2 dX9_isName_81 ?_
          refine pm_lconst (x := 0) hC dX9_isName_84 rfl ?_
          refine pm_lcmp hC ⟨by omega, by omega⟩ ⟨by decide, by decide⟩ dX9_isName_85 (fun y33 b34 => ?_)
          replace hT := hT.trans (pf_let_eq (pm_cmp_u b34))
          refine pm_if_eq (tgt := 97) hC ⟨by omega, by omega⟩ dX9_isName_86 (by decide) (fun c35 => ?_) (fun c35 => ?_)
          · skip
            replace hT := hT.trans (if_pos c35)
            exfalso; omega
          · skip
            replace hT := hT.trans (if_neg c35)
            refine pm_iload_n hC 0 dX9_isName_89 rfl ?_
            refine pm_if_ne (tgt := 97) hC ⟨by decide, by decide⟩ dX9_isName_90 (by decide) (fun c36 => ?_) (fun c36 => ?_)
            · skip
              refine pm_iconst (v := 0) hC dX9_isName_97 ?_
              exact pm_iret hC hR (pm_narZ (by omega)) ⟨0, rfl, ⟨by omega, by omega⟩, rfl, hT⟩ dX9_isName_98
            · skip
              exfalso; omega
      · skip
        replace hT := hT.trans (if_neg c28)
        refine pm_aload_n hC 0 (by decide) dX9_isName_33 rfl ?_
        refine pm_getf (v := y1) hC 3 fl_X9_20 rfl rfl (by decide) rfl e2 dX9_isName_34 ?_
        refine pm_ldc2 (v := 1868850291) hC 3022 dX9_isName_37 (by decide +kernel) ?_
        refine pm_lcmp hC ⟨by omega, by omega⟩ ⟨by decide, by decide⟩ dX9_isName_40 (fun y37 b38 => ?_)
        replace hT := hT.trans (pf_let_eq (pm_cmp_u b38))
        refine pm_if_eq (tgt := 66) hC ⟨by omega, by omega⟩ dX9_isName_41 (by decide) (fun c39 => ?_) (fun c39 => ?_)
        · skip
          replace hT := hT.trans (if_pos c39)
          refine pm_iconst (v := 1) hC dX9_isName_66 ?_
          refine pm_goto (tgt := 71) hC dX9_isName_67 (by decide) ?_
          refine pm_istore_n (lv' := [(1, (0, 1)), (0, (3, 3))]) hC dX9_isName_71 (by decide) rfl ?_
          refine pm_aload_n hC 1 (by decide) dX9_isName_72 rfl ?_
          obtain ⟨y40, e41⟩ : ∃ y, V0 3 1 = y := ⟨_, rfl⟩
          have b42 := hV0.get 3 1 (lo := 0) (hi := 4) (by decide) (by decide) rfl
          rw [e41] at b42
          replace hT := hT.trans (pf_let_eq e41)
          refine pm_getf (v := y40) hC 3 fl_X9_13 rfl rfl (by decide) rfl e41 dX9_isName_73 ?_
          refine pm_iconst (v := 1) hC dX9_isName_76 ?_
          refine pm_icmp_ne (tgt := 97) hC ⟨by omega, by omega⟩ ⟨by decide, by decide⟩ dX9_isName_77 (by decide) (fun c43 => ?_) (fun c43 => ?_)
          · skip
            replace hT := hT.trans (if_pos c43)
            refine pm_iconst (v := 0) hC dX9_isName_97 ?_
            exact pm_iret hC hR (pm_narZ (by omega)) ⟨0, rfl, ⟨by omega, by omega⟩, rfl, hT⟩ dX9_isName_98
          · skip
            replace hT := hT.trans (if_neg (fun q => q c43))
            refine pm_aload_n hC 1 (by decide) dX9_isName_80 rfl ?_
            refine pm_getf (v := y1) hC 3 fl_X9_20 rfl rfl (by decide) rfl e2 dX9_isName_81 ?_
            refine pm_lconst (x := 0) hC dX9_isName_84 rfl ?_
            refine pm_lcmp hC ⟨by omega, by omega⟩ ⟨by decide, by decide⟩ dX9_isName_85 (fun y44 b45 => ?_)
            replace hT := hT.trans (pf_let_eq (pm_cmp_u b45))
            refine pm_if_eq (tgt := 97) hC ⟨by omega, by omega⟩ dX9_isName_86 (by decide) (fun c46 => ?_) (fun c46 => ?_)
            · skip
              replace hT := hT.trans (if_pos c46)
              exfalso; omega
            · skip
              replace hT := hT.trans (if_neg c46)
              refine pm_iload_n hC 0 dX9_isName_89 rfl ?_
              refine pm_if_ne (tgt := 97) hC ⟨by decide, by decide⟩ dX9_isName_90 (by decide) (fun c47 => ?_) (fun c47 => ?_)
              · skip
                refine pm_iconst (v := 0) hC dX9_isName_97 ?_
                exact pm_iret hC hR (pm_narZ (by omega)) ⟨0, rfl, ⟨by omega, by omega⟩, rfl, hT⟩ dX9_isName_98
              · skip
                exfalso; omega
        · skip
          replace hT := hT.trans (if_neg c39)
          refine pm_aload_n hC 0 (by decide) dX9_isName_44 rfl ?_
          refine pm_getf (v := y1) hC 3 fl_X9_20 rfl rfl (by decide) rfl e2 dX9_isName_45 ?_
          refine pm_ldc2 (v := 1752132708) hC 3023 dX9_isName_48 (by decide +kernel) ?_
          refine pm_lcmp hC ⟨by omega, by omega⟩ ⟨by decide, by decide⟩ dX9_isName_51 (fun y48 b49 => ?_)
          replace hT := hT.trans (pf_let_eq (pm_cmp_u b49))
          refine pm_if_eq (tgt := 66) hC ⟨by omega, by omega⟩ dX9_isName_52 (by decide) (fun c50 => ?_) (fun c50 => ?_)
          · skip
            replace hT := hT.trans (if_pos c50)
            refine pm_iconst (v := 1) hC dX9_isName_66 ?_
            refine pm_goto (tgt := 71) hC dX9_isName_67 (by decide) ?_
            refine pm_istore_n (lv' := [(1, (0, 1)), (0, (3, 3))]) hC dX9_isName_71 (by decide) rfl ?_
            refine pm_aload_n hC 1 (by decide) dX9_isName_72 rfl ?_
            obtain ⟨y51, e52⟩ : ∃ y, V0 3 1 = y := ⟨_, rfl⟩
            have b53 := hV0.get 3 1 (lo := 0) (hi := 4) (by decide) (by decide) rfl
            rw [e52] at b53
            replace hT := hT.trans (pf_let_eq e52)
            refine pm_getf (v := y51) hC 3 fl_X9_13 rfl rfl (by decide) rfl e52 dX9_isName_73 ?_
            refine pm_iconst (v := 1) hC dX9_isName_76 ?_
            refine pm_icmp_ne (tgt := 97) hC ⟨by omega, by omega⟩ ⟨by decide, by decide⟩ dX9_isName_77 (by decide) (fun c54 => ?_) (fun c54 => ?_)
            · skip
              replace hT := hT.trans (if_pos c54)
              refine pm_iconst (v := 0) hC dX9_isName_97 ?_
              exact pm_iret hC hR (pm_narZ (by omega)) ⟨0, rfl, ⟨by omega, by omega⟩, rfl, hT⟩ dX9_isName_98
            · skip
              replace hT := hT.trans (if_neg (fun q => q c54))
              refine pm_aload_n hC 1 (by decide) dX9_isName_80 rfl ?_
              refine pm_getf (v := y1) hC 3 fl_X9_20 rfl rfl (by decide) rfl e2 dX9_isName_81 ?_
              refine pm_lconst (x := 0) hC dX9_isName_84 rfl ?_
              refine pm_lcmp hC ⟨by omega, by omega⟩ ⟨by decide, by decide⟩ dX9_isName_85 (fun y55 b56 => ?_)
              replace hT := hT.trans (pf_let_eq (pm_cmp_u b56))
              refine pm_if_eq (tgt := 97) hC ⟨by omega, by omega⟩ dX9_isName_86 (by decide) (fun c57 => ?_) (fun c57 => ?_)
              · skip
                replace hT := hT.trans (if_pos c57)
                exfalso; omega
              · skip
                replace hT := hT.trans (if_neg c57)
                refine pm_iload_n hC 0 dX9_isName_89 rfl ?_
                refine pm_if_ne (tgt := 97) hC ⟨by decide, by decide⟩ dX9_isName_90 (by decide) (fun c58 => ?_) (fun c58 => ?_)
                · skip
                  refine pm_iconst (v := 0) hC dX9_isName_97 ?_
                  exact pm_iret hC hR (pm_narZ (by omega)) ⟨0, rfl, ⟨by omega, by omega⟩, rfl, hT⟩ dX9_isName_98
                · skip
                  exfalso; omega
          · skip
            replace hT := hT.trans (if_neg c50)
            refine pm_aload_n hC 0 (by decide) dX9_isName_55 rfl ?_
            refine pm_getf (v := y1) hC 3 fl_X9_20 rfl rfl (by decide) rfl e2 dX9_isName_56 ?_
            refine pm_ldc2 (v := 465557353070) hC 3024 dX9_isName_59 (by decide +kernel) ?_
            refine pm_lcmp hC ⟨by omega, by omega⟩ ⟨by decide, by decide⟩ dX9_isName_62 (fun y59 b60 => ?_)
            replace hT := hT.trans (pf_let_eq (pm_cmp_u b60))
            refine pm_if_ne (tgt := 70) hC ⟨by omega, by omega⟩ dX9_isName_63 (by decide) (fun c61 => ?_) (fun c61 => ?_)
            · skip
              replace hT := hT.trans (if_pos c61)
              refine pm_iconst (v := 0) hC dX9_isName_70 ?_
              refine pm_istore_n (lv' := [(1, (0, 0)), (0, (3, 3))]) hC dX9_isName_71 (by decide) rfl ?_
              refine pm_aload_n hC 1 (by decide) dX9_isName_72 rfl ?_
              obtain ⟨y62, e63⟩ : ∃ y, V0 3 1 = y := ⟨_, rfl⟩
              have b64 := hV0.get 3 1 (lo := 0) (hi := 4) (by decide) (by decide) rfl
              rw [e63] at b64
              replace hT := hT.trans (pf_let_eq e63)
              refine pm_getf (v := y62) hC 3 fl_X9_13 rfl rfl (by decide) rfl e63 dX9_isName_73 ?_
              refine pm_iconst (v := 1) hC dX9_isName_76 ?_
              refine pm_icmp_ne (tgt := 97) hC ⟨by omega, by omega⟩ ⟨by decide, by decide⟩ dX9_isName_77 (by decide) (fun c65 => ?_) (fun c65 => ?_)
              · skip
                replace hT := hT.trans (if_pos c65)
                refine pm_iconst (v := 0) hC dX9_isName_97 ?_
                exact pm_iret hC hR (pm_narZ (by omega)) ⟨0, rfl, ⟨by omega, by omega⟩, rfl, hT⟩ dX9_isName_98
              · skip
                replace hT := hT.trans (if_neg (fun q => q c65))
                refine pm_aload_n hC 1 (by decide) dX9_isName_80 rfl ?_
                refine pm_getf (v := y1) hC 3 fl_X9_20 rfl rfl (by decide) rfl e2 dX9_isName_81 ?_
                refine pm_lconst (x := 0) hC dX9_isName_84 rfl ?_
                refine pm_lcmp hC ⟨by omega, by omega⟩ ⟨by decide, by decide⟩ dX9_isName_85 (fun y66 b67 => ?_)
                replace hT := hT.trans (pf_let_eq (pm_cmp_u b67))
                refine pm_if_eq (tgt := 97) hC ⟨by omega, by omega⟩ dX9_isName_86 (by decide) (fun c68 => ?_) (fun c68 => ?_)
                · skip
                  replace hT := hT.trans (if_pos c68)
                  refine pm_iconst (v := 0) hC dX9_isName_97 ?_
                  exact pm_iret hC hR (pm_narZ (by omega)) ⟨0, rfl, ⟨by omega, by omega⟩, rfl, hT⟩ dX9_isName_98
                · skip
                  replace hT := hT.trans (if_neg c68)
                  refine pm_iload_n hC 0 dX9_isName_89 rfl ?_
                  refine pm_if_ne (tgt := 97) hC ⟨by decide, by decide⟩ dX9_isName_90 (by decide) (fun c69 => ?_) (fun c69 => ?_)
                  · skip
                    exfalso; omega
                  · skip
                    refine pm_iconst (v := 1) hC dX9_isName_93 ?_
                    refine pm_goto (tgt := 98) hC dX9_isName_94 (by decide) ?_
                    exact pm_iret hC hR (pm_narZ (by omega)) ⟨1, rfl, ⟨by omega, by omega⟩, rfl, hT⟩ dX9_isName_98
            · skip
              replace hT := hT.trans (if_neg (fun q => q c61))
              refine pm_iconst (v := 1) hC dX9_isName_66 ?_
              refine pm_goto (tgt := 71) hC dX9_isName_67 (by decide) ?_
              refine pm_istore_n (lv' := [(1, (0, 1)), (0, (3, 3))]) hC dX9_isName_71 (by decide) rfl ?_
              refine pm_aload_n hC 1 (by decide) dX9_isName_72 rfl ?_
              obtain ⟨y70, e71⟩ : ∃ y, V0 3 1 = y := ⟨_, rfl⟩
              have b72 := hV0.get 3 1 (lo := 0) (hi := 4) (by decide) (by decide) rfl
              rw [e71] at b72
              replace hT := hT.trans (pf_let_eq e71)
              refine pm_getf (v := y70) hC 3 fl_X9_13 rfl rfl (by decide) rfl e71 dX9_isName_73 ?_
              refine pm_iconst (v := 1) hC dX9_isName_76 ?_
              refine pm_icmp_ne (tgt := 97) hC ⟨by omega, by omega⟩ ⟨by decide, by decide⟩ dX9_isName_77 (by decide) (fun c73 => ?_) (fun c73 => ?_)
              · skip
                replace hT := hT.trans (if_pos c73)
                refine pm_iconst (v := 0) hC dX9_isName_97 ?_
                exact pm_iret hC hR (pm_narZ (by omega)) ⟨0, rfl, ⟨by omega, by omega⟩, rfl, hT⟩ dX9_isName_98
              · skip
                replace hT := hT.trans (if_neg (fun q => q c73))
                refine pm_aload_n hC 1 (by decide) dX9_isName_80 rfl ?_
                refine pm_getf (v := y1) hC 3 fl_X9_20 rfl rfl (by decide) rfl e2 dX9_isName_81 ?_
                refine pm_lconst (x := 0) hC dX9_isName_84 rfl ?_
                refine pm_lcmp hC ⟨by omega, by omega⟩ ⟨by decide, by decide⟩ dX9_isName_85 (fun y74 b75 => ?_)
                replace hT := hT.trans (pf_let_eq (pm_cmp_u b75))
                refine pm_if_eq (tgt := 97) hC ⟨by omega, by omega⟩ dX9_isName_86 (by decide) (fun c76 => ?_) (fun c76 => ?_)
                · skip
                  replace hT := hT.trans (if_pos c76)
                  exfalso; omega
                · skip
                  replace hT := hT.trans (if_neg c76)
                  refine pm_iload_n hC 0 dX9_isName_89 rfl ?_
                  refine pm_if_ne (tgt := 97) hC ⟨by decide, by decide⟩ dX9_isName_90 (by decide) (fun c77 => ?_) (fun c77 => ?_)
                  · skip
                    refine pm_iconst (v := 0) hC dX9_isName_97 ?_
                    exact pm_iret hC hR (pm_narZ (by omega)) ⟨0, rfl, ⟨by omega, by omega⟩, rfl, hT⟩ dX9_isName_98
                  · skip
                    exfalso; omega
