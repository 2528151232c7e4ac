noncomputable def F_X6_findName (sc : Nat) (V0 : pm_M) : Int × pm_M := pf_call (F_X9_isName  V0) fun y5 _ => (if y5 = 0 then (((-1), V0)) else (pf_val ((0 : Int), V0) (fun (q : Int) => match q with | x9 => (pf_let (V0 sc 0) fun y18 => (if y18 ≤ x9 then ((.inr ((-1), V0))) else (pf_let (V0 70 (x9 : Int).toNat) fun y23 => pf_let (V0 3 3) fun y26 => pf_let (pm_cmp y23 y26) fun y29 => (if ¬ (y29 = 0) then (pf_let (x9 + 1) fun x32 => (.inl x32)) else ((.inr (x9, V0)))))))) 0))
theorem F_X6_findName_eq (sc : Nat) (V0 : pm_M) : F_X6_findName sc V0 = pf_call (F_X9_isName  V0) fun y5 _ => (if y5 = 0 then (((-1), V0)) else (pf_val ((0 : Int), V0) (fun (q : Int) => match q with | x9 => (pf_let (V0 sc 0) fun y18 => (if y18 ≤ x9 then ((.inr ((-1), V0))) else (pf_let (V0 70 (x9 : Int).toNat) fun y23 => pf_let (V0 3 3) fun y26 => pf_let (pm_cmp y23 y26) fun y29 => (if ¬ (y29 = 0) then (pf_let (x9 + 1) fun x32 => (.inl x32)) else ((.inr (x9, V0)))))))) 0)) := rfl
noncomputable def F_X5_learntOf (sc : Nat) (a1 a2 : Int) (V0 : pm_M) : Int × pm_M := pf_val ((0 : Int), V0) (fun (q : Int) => match q with | x1 => (pf_let (V0 sc 10) fun y10 => (if y10 ≤ x1 then ((.inr ((-1), V0))) else (pf_let (V0 (sc + 4) (x1 : Int).toNat) fun y15 => (if ¬ (y15 = ((a1 * 10) + a2)) then (pf_let (x1 + 1) fun x19 => (.inl x19)) else (pf_let (V0 (sc + 5) (x1 : Int).toNat) fun y22 => (.inr (y22, V0)))))))) 0
theorem F_X5_learntOf_eq (sc : Nat) (a1 a2 : Int) (V0 : pm_M) : F_X5_learntOf sc a1 a2 V0 = pf_val ((0 : Int), V0) (fun (q : Int) => match q with | x1 => (pf_let (V0 sc 10) fun y10 => (if y10 ≤ x1 then ((.inr ((-1), V0))) else (pf_let (V0 (sc + 4) (x1 : Int).toNat) fun y15 => (if ¬ (y15 = ((a1 * 10) + a2)) then (pf_let (x1 + 1) fun x19 => (.inl x19)) else (pf_let (V0 (sc + 5) (x1 : Int).toNat) fun y22 => (.inr (y22, V0)))))))) 0 := rfl
noncomputable def F_X6_closes (sc : Nat) (V0 : pm_M) : Int × pm_M := pf_let (V0 3 3) fun y2 => pf_call (F_X9_isSign 59 V0) fun y8 _ => (if ¬ (y8 = 0) then (pf_call (F_X9_step  V0) fun _ V13 => (1, V13)) else ((0, V0)))
theorem F_X6_closes_eq (sc : Nat) (V0 : pm_M) : F_X6_closes sc V0 = pf_let (V0 3 3) fun y2 => pf_call (F_X9_isSign 59 V0) fun y8 _ => (if ¬ (y8 = 0) then (pf_call (F_X9_step  V0) fun _ V13 => (1, V13)) else ((0, V0))) := rfl
noncomputable def F_X6_readLearn (sc : Nat) (V0 : pm_M) : Int × pm_M := pf_let (V0 sc 10) fun y1 => (if y1 < 12 then (pf_call (F_X9_step  V0) fun _ V7 => pf_call (F_X6_findName sc V7) fun y20 _ => (if ¬ (y20 = (-1)) then (pf_call (F_X9_step  V7) fun _ V25 => pf_call (F_X6_findName sc V25) fun y38 _ => (if y38 = (-1) then ((0, V25)) else (pf_call (F_X5_learntOf sc y20 y38 V25) fun y45 _ => (if y45 = (-1) then (pf_call (F_X9_step  V25) fun _ V50 => pf_call (F_X6_findName sc V50) fun y63 _ => (if ¬ (y63 = (-1)) then (pf_call (F_X9_step  (pm_up (pm_up (pm_up V50 (sc + 4) (y1 : Int).toNat ((y20 * 10) + y38)) (sc + 5) (y1 : Int).toNat y63) sc 10 (y1 + 1))) fun _ V70 => pf_call (F_X6_closes sc V70) fun y85 V82 => (y85, V82)) else ((0, V50)))) else ((0, V25)))))) else ((0, V7)))) else ((0, V0)))
theorem F_X6_readLearn_eq (sc : Nat) (V0 : pm_M) : F_X6_readLearn sc V0 = pf_let (V0 sc 10) fun y1 => (if y1 < 12 then (pf_call (F_X9_step  V0) fun _ V7 => pf_call (F_X6_findName sc V7) fun y20 _ => (if ¬ (y20 = (-1)) then (pf_call (F_X9_step  V7) fun _ V25 => pf_call (F_X6_findName sc V25) fun y38 _ => (if y38 = (-1) then ((0, V25)) else (pf_call (F_X5_learntOf sc y20 y38 V25) fun y45 _ => (if y45 = (-1) then (pf_call (F_X9_step  V25) fun _ V50 => pf_call (F_X6_findName sc V50) fun y63 _ => (if ¬ (y63 = (-1)) then (pf_call (F_X9_step  (pm_up (pm_up (pm_up V50 (sc + 4) (y1 : Int).toNat ((y20 * 10) + y38)) (sc + 5) (y1 : Int).toNat y63) sc 10 (y1 + 1))) fun _ V70 => pf_call (F_X6_closes sc V70) fun y85 V82 => (y85, V82)) else ((0, V50)))) else ((0, V25)))))) else ((0, V7)))) else ((0, V0))) := rfl
noncomputable def F_X6_readHold (sc : Nat) (V0 : pm_M) : Int × pm_M := pf_call (F_X9_step  V0) fun _ V3 => pf_call (F_X6_findName sc V3) fun y15 _ => (if y15 = (-1) then ((0, V3)) else (pf_let (V3 71 (y15 : Int).toNat) fun y20 => (if y20 = 0 then (pf_call (F_X9_step  V3) fun _ V25 => pf_let (V25 3 3) fun y34 => pf_call (F_X9_isNumber 1 9 V25) fun y40 _ => (if ¬ (y40 = 0) then (pf_call (F_X9_step  (pm_up (pm_up V25 71 (y15 : Int).toNat 1) (sc + 3) (y15 : Int).toNat y34)) fun _ V46 => pf_call (F_X6_closes sc V46) fun y60 V57 => (y60, V57)) else ((0, V25)))) else ((0, V3)))))
theorem F_X6_readHold_eq (sc : Nat) (V0 : pm_M) : F_X6_readHold sc V0 = pf_call (F_X9_step  V0) fun _ V3 => pf_call (F_X6_findName sc V3) fun y15 _ => (if y15 = (-1) then ((0, V3)) else (pf_let (V3 71 (y15 : Int).toNat) fun y20 => (if y20 = 0 then (pf_call (F_X9_step  V3) fun _ V25 => pf_let (V25 3 3) fun y34 => pf_call (F_X9_isNumber 1 9 V25) fun y40 _ => (if ¬ (y40 = 0) then (pf_call (F_X9_step  (pm_up (pm_up V25 71 (y15 : Int).toNat 1) (sc + 3) (y15 : Int).toNat y34)) fun _ V46 => pf_call (F_X6_closes sc V46) fun y60 V57 => (y60, V57)) else ((0, V25)))) else ((0, V3))))) := rfl
noncomputable def F_X6_readNumbers (sc : Nat) (a1 a2 a3 a4 : Int) (V0 : pm_M) : Int × pm_M := pf_call (F_X9_step  V0) fun _ V3 => pf_let (V3 3 3) fun y11 => pf_call (F_X9_isNumber a1 a2 V3) fun y17 _ => (if ¬ (y17 = 0) then (pf_call (F_X9_step  (pm_up V3 69 5 y11)) fun _ V22 => pf_let (V22 3 3) fun y31 => pf_call (F_X9_isNumber a3 a4 V22) fun y37 _ => (if ¬ (y37 = 0) then (pf_call (F_X9_step  (pm_up V22 69 6 y31)) fun _ V42 => (1, V42)) else ((0, V22)))) else ((0, V3)))
theorem F_X6_readNumbers_eq (sc : Nat) (a1 a2 a3 a4 : Int) (V0 : pm_M) : F_X6_readNumbers sc a1 a2 a3 a4 V0 = pf_call (F_X9_step  V0) fun _ V3 => pf_let (V3 3 3) fun y11 => pf_call (F_X9_isNumber a1 a2 V3) fun y17 _ => (if ¬ (y17 = 0) then (pf_call (F_X9_step  (pm_up V3 69 5 y11)) fun _ V22 => pf_let (V22 3 3) fun y31 => pf_call (F_X9_isNumber a3 a4 V22) fun y37 _ => (if ¬ (y37 = 0) then (pf_call (F_X9_step  (pm_up V22 69 6 y31)) fun _ V42 => (1, V42)) else ((0, V22)))) else ((0, V3))) := rfl
noncomputable def F_X6_readOdds (sc : Nat) (V0 : pm_M) : Int × pm_M := pf_let (V0 69 4) fun y1 => (if ¬ (y1 = 0) then ((0, V0)) else (pf_call (F_X6_readNumbers sc 0 16 1 99 V0) fun y10 V7 => pf_let (V7 69 5) fun y19 => pf_let (V7 69 6) fun y22 => (if ¬ (y10 = 0) then (pf_call (F_X6_closes sc (pm_up (pm_up (pm_up V7 69 4 1) sc 8 y19) sc 9 y22)) fun y30 V27 => (y30, V27)) else ((0, V7)))))
theorem F_X6_readOdds_eq (sc : Nat) (V0 : pm_M) : F_X6_readOdds sc V0 = pf_let (V0 69 4) fun y1 => (if ¬ (y1 = 0) then ((0, V0)) else (pf_call (F_X6_readNumbers sc 0 16 1 99 V0) fun y10 V7 => pf_let (V7 69 5) fun y19 => pf_let (V7 69 6) fun y22 => (if ¬ (y10 = 0) then (pf_call (F_X6_closes sc (pm_up (pm_up (pm_up V7 69 4 1) sc 8 y19) sc 9 y22)) fun y30 V27 => (y30, V27)) else ((0, V7))))) := rfl
noncomputable def F_X6_readFace (sc : Nat) (V0 : pm_M) : Int × pm_M := pf_let (V0 sc 6) fun y1 => (if 0 < y1 then ((0, V0)) else (pf_call (F_X6_readNumbers sc 1 60 0 9 V0) fun y10 V7 => pf_let (V7 69 5) fun y20 => pf_let (V7 69 6) fun y23 => (if ¬ (y10 = 0) then (pf_call (F_X6_closes sc (pm_up (pm_up V7 sc 6 y20) sc 7 y23)) fun y31 V28 => (y31, V28)) else ((0, V7)))))
theorem F_X6_readFace_eq (sc : Nat) (V0 : pm_M) : F_X6_readFace sc V0 = pf_let (V0 sc 6) fun y1 => (if 0 < y1 then ((0, V0)) else (pf_call (F_X6_readNumbers sc 1 60 0 9 V0) fun y10 V7 => pf_let (V7 69 5) fun y20 => pf_let (V7 69 6) fun y23 => (if ¬ (y10 = 0) then (pf_call (F_X6_closes sc (pm_up (pm_up V7 sc 6 y20) sc 7 y23)) fun y31 V28 => (y31, V28)) else ((0, V7))))) := rfl
noncomputable def F_X6_readVoice (sc : Nat) (V0 : pm_M) : Int × pm_M := pf_let (V0 sc 4) fun y1 => (if 0 < y1 then ((0, V0)) else (pf_call (F_X6_readNumbers sc 1 60 0 9 V0) fun y10 V7 => pf_let (V7 69 5) fun y20 => pf_let (V7 69 6) fun y23 => (if ¬ (y10 = 0) then (pf_call (F_X6_closes sc (pm_up (pm_up V7 sc 4 y20) sc 5 y23)) fun y31 V28 => (y31, V28)) else ((0, V7)))))
theorem F_X6_readVoice_eq (sc : Nat) (V0 : pm_M) : F_X6_readVoice sc V0 = pf_let (V0 sc 4) fun y1 => (if 0 < y1 then ((0, V0)) else (pf_call (F_X6_readNumbers sc 1 60 0 9 V0) fun y10 V7 => pf_let (V7 69 5) fun y20 => pf_let (V7 69 6) fun y23 => (if ¬ (y10 = 0) then (pf_call (F_X6_closes sc (pm_up (pm_up V7 sc 4 y20) sc 5 y23)) fun y31 V28 => (y31, V28)) else ((0, V7))))) := rfl
noncomputable def F_X5_isTaken (sc : Nat) (a1 a2 : Int) (V0 : pm_M) : Int × pm_M := pf_val ((0 : Int), V0) (fun (q : Int) => match q with | x1 => (pf_let (V0 sc 0) fun y10 => (if y10 ≤ x1 then ((.inr (0, V0))) else (pf_let (V0 (sc + 1) (x1 : Int).toNat) fun y15 => (if ¬ (y15 = a1) then (pf_let (x1 + 1) fun x19 => (.inl x19)) else (pf_let (V0 (sc + 2) (x1 : Int).toNat) fun y22 => (if ¬ (y22 = a2) then (pf_let (x1 + 1) fun x26 => (.inl x26)) else ((.inr (1, V0)))))))))) 0
theorem F_X5_isTaken_eq (sc : Nat) (a1 a2 : Int) (V0 : pm_M) : F_X5_isTaken sc a1 a2 V0 = pf_val ((0 : Int), V0) (fun (q : Int) => match q with | x1 => (pf_let (V0 sc 0) fun y10 => (if y10 ≤ x1 then ((.inr (0, V0))) else (pf_let (V0 (sc + 1) (x1 : Int).toNat) fun y15 => (if ¬ (y15 = a1) then (pf_let (x1 + 1) fun x19 => (.inl x19)) else (pf_let (V0 (sc + 2) (x1 : Int).toNat) fun y22 => (if ¬ (y22 = a2) then (pf_let (x1 + 1) fun x26 => (.inl x26)) else ((.inr (1, V0)))))))))) 0 := rfl
noncomputable def F_X6_readSound (sc : Nat) (V0 : pm_M) : Int × pm_M := pf_let (V0 sc 0) fun y1 => (if y1 < 9 then (pf_call (F_X9_step  V0) fun _ V7 => pf_call (F_X9_isName  V7) fun y19 _ => (if y19 = 0 then ((0, V7)) else (pf_call (F_X6_findName sc V7) fun y27 _ => (if y27 = (-1) then (pf_let (V7 3 3) fun y32 => pf_call (F_X9_step  (pm_up V7 70 (y1 : Int).toNat y32)) fun _ V36 => pf_let (V36 3 3) fun y46 => pf_call (F_X9_isNumber 0 99 V36) fun y52 _ => (if ¬ (y52 = 0) then (pf_call (F_X9_step  V36) fun _ V57 => pf_let (V57 3 3) fun y67 => pf_call (F_X9_isNumber 0 99 V57) fun y73 _ => (if y73 = 0 then ((0, V57)) else (pf_call (F_X5_isTaken sc y46 y67 V57) fun y80 _ => (if y80 = 0 then (pf_call (F_X9_step  (pm_up (pm_up (pm_up (pm_up (pm_up V57 (sc + 1) (y1 : Int).toNat y46) (sc + 2) (y1 : Int).toNat y67) (sc + 3) (y1 : Int).toNat 1) 71 (y1 : Int).toNat 0) sc 0 (y1 + 1))) fun _ V89 => pf_call (F_X6_closes sc V89) fun y107 V104 => (y107, V104)) else ((0, V57)))))) else ((0, V36)))) else ((0, V7)))))) else ((0, V0)))
theorem F_X6_readSound_eq (sc : Nat) (V0 : pm_M) : F_X6_readSound sc V0 = pf_let (V0 sc 0) fun y1 => (if y1 < 9 then (pf_call (F_X9_step  V0) fun _ V7 => pf_call (F_X9_isName  V7) fun y19 _ => (if y19 = 0 then ((0, V7)) else (pf_call (F_X6_findName sc V7) fun y27 _ => (if y27 = (-1) then (pf_let (V7 3 3) fun y32 => pf_call (F_X9_step  (pm_up V7 70 (y1 : Int).toNat y32)) fun _ V36 => pf_let (V36 3 3) fun y46 => pf_call (F_X9_isNumber 0 99 V36) fun y52 _ => (if ¬ (y52 = 0) then (pf_call (F_X9_step  V36) fun _ V57 => pf_let (V57 3 3) fun y67 => pf_call (F_X9_isNumber 0 99 V57) fun y73 _ => (if y73 = 0 then ((0, V57)) else (pf_call (F_X5_isTaken sc y46 y67 V57) fun y80 _ => (if y80 = 0 then (pf_call (F_X9_step  (pm_up (pm_up (pm_up (pm_up (pm_up V57 (sc + 1) (y1 : Int).toNat y46) (sc + 2) (y1 : Int).toNat y67) (sc + 3) (y1 : Int).toNat 1) 71 (y1 : Int).toNat 0) sc 0 (y1 + 1))) fun _ V89 => pf_call (F_X6_closes sc V89) fun y107 V104 => (y107, V104)) else ((0, V57)))))) else ((0, V36)))) else ((0, V7)))))) else ((0, V0))) := rfl
noncomputable def F_X6_readStatement (sc : Nat) (V0 : pm_M) : Int × pm_M := pf_call (F_X9_isWord 495791205988 V0) fun y5 _ => (if y5 = 0 then (pf_call (F_X9_isWord 508675318629 V0) fun y12 _ => (if y12 = 0 then (pf_call (F_X9_isWord 1717658469 V0) fun y19 _ => (if y19 = 0 then (pf_call (F_X9_isWord 1868850291 V0) fun y26 _ => (if y26 = 0 then (pf_call (F_X9_isWord 1752132708 V0) fun y33 _ => (if y33 = 0 then (pf_call (F_X9_isWord 465557353070 V0) fun y40 _ => (if y40 = 0 then ((0, V0)) else (pf_call (F_X6_readLearn sc V0) fun y49 V46 => (if y49 = 0 then ((0, V46)) else ((1, V46)))))) else (pf_call (F_X6_readHold sc V0) fun y64 V61 => (y64, V61)))) else (pf_call (F_X6_readOdds sc V0) fun y77 V74 => (y77, V74)))) else (pf_call (F_X6_readFace sc V0) fun y91 V88 => (y91, V88)))) else (pf_call (F_X6_readVoice sc V0) fun y105 V102 => (y105, V102)))) else (pf_call (F_X6_readSound sc V0) fun y119 V116 => (y119, V116)))
theorem F_X6_readStatement_eq (sc : Nat) (V0 : pm_M) : F_X6_readStatement sc V0 = pf_call (F_X9_isWord 495791205988 V0) fun y5 _ => (if y5 = 0 then (pf_call (F_X9_isWord 508675318629 V0) fun y12 _ => (if y12 = 0 then (pf_call (F_X9_isWord 1717658469 V0) fun y19 _ => (if y19 = 0 then (pf_call (F_X9_isWord 1868850291 V0) fun y26 _ => (if y26 = 0 then (pf_call (F_X9_isWord 1752132708 V0) fun y33 _ => (if y33 = 0 then (pf_call (F_X9_isWord 465557353070 V0) fun y40 _ => (if y40 = 0 then ((0, V0)) else (pf_call (F_X6_readLearn sc V0) fun y49 V46 => (if y49 = 0 then ((0, V46)) else ((1, V46)))))) else (pf_call (F_X6_readHold sc V0) fun y64 V61 => (y64, V61)))) else (pf_call (F_X6_readOdds sc V0) fun y77 V74 => (y77, V74)))) else (pf_call (F_X6_readFace sc V0) fun y91 V88 => (y91, V88)))) else (pf_call (F_X6_readVoice sc V0) fun y105 V102 => (y105, V102)))) else (pf_call (F_X6_readSound sc V0) fun y119 V116 => (y119, V116))) := rfl
noncomputable def F_X5_clear (sc : Nat) (V0 : pm_M) : Int × pm_M := (0, (pm_up (pm_up (pm_up (pm_up (pm_up (pm_up (pm_up (pm_up V0 sc 0 0) sc 4 0) sc 5 0) sc 6 0) sc 7 0) sc 8 16) sc 9 99) sc 10 0))
theorem F_X5_clear_eq (sc : Nat) (V0 : pm_M) : F_X5_clear sc V0 = (0, (pm_up (pm_up (pm_up (pm_up (pm_up (pm_up (pm_up (pm_up V0 sc 0 0) sc 4 0) sc 5 0) sc 6 0) sc 7 0) sc 8 16) sc 9 99) sc 10 0)) := rfl
noncomputable def F_X5_isWhole (sc : Nat) (V0 : pm_M) : Int × pm_M := pf_let (V0 sc 0) fun y1 => (if y1 < 2 then ((0, V0)) else (pf_let (V0 sc 4) fun y5 => (if y5 ≤ 0 then ((0, V0)) else (pf_let (V0 sc 6) fun y9 => (if y9 ≤ 0 then ((0, V0)) else ((1, V0)))))))
theorem F_X5_isWhole_eq (sc : Nat) (V0 : pm_M) : F_X5_isWhole sc V0 = pf_let (V0 sc 0) fun y1 => (if y1 < 2 then ((0, V0)) else (pf_let (V0 sc 4) fun y5 => (if y5 ≤ 0 then ((0, V0)) else (pf_let (V0 sc 6) fun y9 => (if y9 ≤ 0 then ((0, V0)) else ((1, V0))))))) := rfl
noncomputable def F_X6_read (sc : Nat) (V0 : pm_M) : Int × pm_M := pf_call (F_X5_clear sc (pm_up V0 69 3 (sc : Int))) fun _ V2 => pf_call (F_X9_begin  (pm_up V2 69 4 0)) fun _ V11 => pf_val ((0 : Int), V0) (fun (q : Int × Int × pm_M) => match q with | (x20, x22, V24) => ((if 500 ≤ x22 then ((if x20 = 0 then (pf_let (V24 3 2) fun y38 => (.inr (y38, V24))) else (pf_call (F_X5_isWhole sc V24) fun y44 _ => (if y44 = 0 then (pf_let (V24 3 2) fun y49 => (.inr (y49, V24))) else ((.inr ((-1), V24))))))) else ((if x20 = 0 then ((if x20 = 0 then (pf_let (V24 3 2) fun y55 => (.inr (y55, V24))) else ((.inr ((0 : Int), V0))))) else (pf_let (V24 3 1) fun y59 => (if y59 = 0 then ((if x20 = 0 then ((.inr ((0 : Int), V0))) else (pf_call (F_X5_isWhole sc V24) fun y67 _ => (if y67 = 0 then (pf_let (V24 3 2) fun y71 => (.inr (y71, V24))) else ((.inr ((-1), V24))))))) else (pf_call (F_X6_readStatement sc V24) fun y78 V75 => pf_let (x22 + 1) fun x87 => (.inl (y78, x87, V75)))))))))) (1, 0, V11)
theorem F_X6_read_eq (sc : Nat) (V0 : pm_M) : F_X6_read sc V0 = pf_call (F_X5_clear sc (pm_up V0 69 3 (sc : Int))) fun _ V2 => pf_call (F_X9_begin  (pm_up V2 69 4 0)) fun _ V11 => pf_val ((0 : Int), V0) (fun (q : Int × Int × pm_M) => match q with | (x20, x22, V24) => ((if 500 ≤ x22 then ((if x20 = 0 then (pf_let (V24 3 2) fun y38 => (.inr (y38, V24))) else (pf_call (F_X5_isWhole sc V24) fun y44 _ => (if y44 = 0 then (pf_let (V24 3 2) fun y49 => (.inr (y49, V24))) else ((.inr ((-1), V24))))))) else ((if x20 = 0 then ((if x20 = 0 then (pf_let (V24 3 2) fun y55 => (.inr (y55, V24))) else ((.inr ((0 : Int), V0))))) else (pf_let (V24 3 1) fun y59 => (if y59 = 0 then ((if x20 = 0 then ((.inr ((0 : Int), V0))) else (pf_call (F_X5_isWhole sc V24) fun y67 _ => (if y67 = 0 then (pf_let (V24 3 2) fun y71 => (.inr (y71, V24))) else ((.inr ((-1), V24))))))) else (pf_call (F_X6_readStatement sc V24) fun y78 V75 => pf_let (x22 + 1) fun x87 => (.inl (y78, x87, V75)))))))))) (1, 0, V11) := rfl
set_option maxHeartbeats 4000000 in
set_option maxRecDepth 100000 in
theorem fC_X6_findName_45  : pm_K 2 yX6_findName cX6_findName 2 (some .int) (fun av V => av = [(3, 69)] ∧ pm_ok 0 90 V ∧ (45 ≤ V 69 3 ∧ V 69 3 ≤ 45)) (fun _ V r V' => ∃ y, r = some (0, y) ∧ ((-1) ≤ y ∧ y ≤ 8) ∧ V = V' ∧ F_X6_findName 45 V = (y, V)) := by
  refine pm_MT.of (by decide) ⟨Nat.le_refl _, by decide⟩ (fun av V h => by rw [h.1]; exact (by decide : pm_words [(3, 0)] ≤ 2)) ?_
  rintro X av V0 hC - hR ⟨rfl, hV0, hq0⟩
  change pm_J X 0 [(0, (3, 69))] [] 118 V0
  have hT := F_X6_findName_eq 45 V0
  obtain ⟨z0, ez0⟩ : ∃ z, V0 69 3 = z := ⟨_, rfl⟩
  rw [ez0] at hq0
  have en0 : V0 69 3 = 45 := by rw [ez0]; omega
  refine pm_aload_n hC 0 (by decide) dX6_findName_0 rfl ?_
  have e1 : V0 69 0 = 3 := hV0.one 69 0 (by decide) (by decide) rfl
  refine pm_getf (v := 3) hC 69 fl_X6_9 rfl rfl (by decide) rfl e1 dX6_findName_1 ?_
  refine pm_callV (ci := 9) (as := []) (st := []) hC 3 fC_X9_isName lm_X6_101 li_X9_isName (by decide) (by decide) rfl rfl rfl (by decide) rfl rfl (Nat.le_of_ble_eq_true rfl) ⟨Nat.le_refl _, Or.inl rfl⟩ dX6_findName_4 ⟨rfl, hV0⟩ (fun r2 V3 hp4 => ?_)
  obtain ⟨y5, rfl, b6, rfl, hE7⟩ := hp4
  replace hT := hT.trans (pf_call_eq hE7)
  change pm_J X 7 [(0, (3, 69))] [(0, y5)] 118 V0
  refine pm_if_eq (tgt := 48) hC ⟨by omega, by omega⟩ dX6_findName_7 (by decide) (fun c8 => ?_) (fun c8 => ?_)
  · skip
    replace hT := hT.trans (if_pos c8)
    refine pm_iconst (v := (-1)) hC dX6_findName_48 ?_
    exact pm_iret hC hR pm_nar0 ⟨(-1), rfl, ⟨by omega, by omega⟩, rfl, hT⟩ dX6_findName_49
  · skip
    replace hT := hT.trans (if_neg c8)
    refine pm_iconst (v := 0) hC dX6_findName_10 ?_
    refine pm_istore_n (lv' := [(1, (0, 0)), (0, (3, 69))]) hC dX6_findName_11 (by decide) rfl ?_
    obtain ⟨B11, hB12, hT⟩ := pf_loop hT
    have L14 : ∀ (N16 : Nat) (x9 : Int), (0 ≤ x9 ∧ x9 ≤ 9) → F_X6_findName 45 V0 = pf_val ((0 : Int), V0) B11 x9 → (Int.toNat (9 - x9)) = N16 → pm_J X 12 [(0, (3, 69)), (1, (0, x9))] [] 118 V0 := by
      intro N16
      induction N16 using Nat.strongRecOn with
      | _ N16 ih17 =>
      intro x9 b10 hT hm15
      have hb13 := congrFun hB12 x9
      refine pm_iload_n hC 1 dX6_findName_12 rfl ?_
      refine pm_aload_n hC 0 (by decide) dX6_findName_13 rfl ?_
      refine pm_getf (v := 45) hC 69 fl_X6_23 rfl rfl (by decide) rfl en0 dX6_findName_14 ?_
      obtain ⟨y18, e19⟩ : ∃ y, V0 45 0 = y := ⟨_, rfl⟩
      have b20 := hV0.get 45 0 (lo := 0) (hi := 9) (by decide) (by decide) rfl
      rw [e19] at b20
      replace hb13 := hb13.trans (pf_let_eq e19)
      refine pm_getf (v := y18) hC 45 fl_X6_95 rfl rfl (by decide) rfl e19 dX6_findName_17 ?_
      refine pm_icmp_ge (tgt := 48) hC ⟨by omega, by omega⟩ ⟨by omega, by omega⟩ dX6_findName_20 (by decide) (fun c21 => ?_) (fun c21 => ?_)
      · skip
        replace hb13 := hb13.trans (if_pos c21)
        refine pm_iconst (v := (-1)) hC dX6_findName_48 ?_
        have hT := hT.trans (pf_val_inr hb13)
        exact pm_iret hC hR pm_nar0 ⟨(-1), rfl, ⟨by omega, by omega⟩, rfl, hT⟩ dX6_findName_49
      · skip
        replace hb13 := hb13.trans (if_neg (Int.not_le.mpr c21))
        refine pm_aload_n hC 0 (by decide) dX6_findName_23 rfl ?_
        have e22 : V0 69 1 = 70 := hV0.one 69 1 (by decide) (by decide) rfl
        refine pm_getf (v := 70) hC 69 fl_X6_15 rfl rfl (by decide) rfl e22 dX6_findName_24 ?_
        refine pm_iload_n hC 1 dX6_findName_27 rfl ?_
        obtain ⟨y23, e24⟩ : ∃ y, V0 70 (x9 : Int).toNat = y := ⟨_, rfl⟩
        replace hb13 := hb13.trans (pf_let_eq e24)
        have b25 := hV0.get 70 (x9 : Int).toNat (lo := (-9223372036854775808)) (hi := 9223372036854775807) (by decide) (show _ < 9 by omega) rfl
        rw [e24] at b25
        refine pm_laload (len := 9) (v := y23) hC 70 rfl rfl (by decide) ⟨by omega, by omega⟩ (by decide) e24 dX6_findName_28 ?_
        refine pm_aload_n hC 0 (by decide) dX6_findName_29 rfl ?_
        refine pm_getf (v := 3) hC 69 fl_X6_9 rfl rfl (by decide) rfl e1 dX6_findName_30 ?_
        obtain ⟨y26, e27⟩ : ∃ y, V0 3 3 = y := ⟨_, rfl⟩
        have b28 := hV0.get 3 3 (lo := (-9223372036854775808)) (hi := 9223372036854775807) (by decide) (by decide) rfl
        rw [e27] at b28
        replace hb13 := hb13.trans (pf_let_eq e27)
        refine pm_getf (v := y26) hC 3 fl_X6_108 rfl rfl (by decide) rfl e27 dX6_findName_33 ?_
        refine pm_lcmp hC ⟨by omega, by omega⟩ ⟨by omega, by omega⟩ dX6_findName_36 (fun y29 b30 => ?_)
        replace hb13 := hb13.trans (pf_let_eq (pm_cmp_u b30))
        refine pm_if_ne (tgt := 42) hC ⟨by omega, by omega⟩ dX6_findName_37 (by decide) (fun c31 => ?_) (fun c31 => ?_)
        · skip
          replace hb13 := hb13.trans (if_pos c31)
          obtain ⟨x32, ei33⟩ : ∃ y : Int, x9 + 1 = y := ⟨_, rfl⟩
          replace hb13 := hb13.trans (pf_let_eq ei33)
          refine pm_iinc (y := x32) (lv' := [(1, (0, x32)), (0, (3, 69))]) hC 1 dX6_findName_42 (by decide) rfl ei33 rfl ?_
          refine pm_goto (tgt := 12) hC dX6_findName_45 (by decide) ?_
          refine pm_lvsub [1, 0] (lv' := [(0, (3, 69)), (1, (0, x32))]) rfl ?_
          exact ih17 _ (by omega) x32 ⟨by omega, by omega⟩ (hT.trans (pf_val_inl hb13)) rfl
        · skip
          replace hb13 := hb13.trans (if_neg (fun q => q c31))
          refine pm_iload_n hC 1 dX6_findName_40 rfl ?_
          have hT := hT.trans (pf_val_inr hb13)
          exact pm_iret hC hR pm_nar0 ⟨x9, rfl, ⟨by omega, by omega⟩, rfl, hT⟩ dX6_findName_41
    refine pm_lvsub [1, 0] (lv' := [(0, (3, 69)), (1, (0, 0))]) rfl ?_
    exact L14 _ 0 ⟨by decide, by decide⟩ hT rfl
set_option maxHeartbeats 4000000 in
set_option maxRecDepth 100000 in
theorem fC_X5_learntOf_45 (a1 a2 : Int) (h0 : 0 ≤ a1 ∧ a1 ≤ 8) (h1 : 0 ≤ a2 ∧ a2 ≤ 8) : pm_K 1 yX5_learntOf cX5_learntOf 4 (some .int) (fun av V => av = [(3, 45), (0, a1), (0, a2)] ∧ pm_ok 0 90 V) (fun _ V r V' => ∃ y, r = some (0, y) ∧ ((-1) ≤ y ∧ y ≤ 8) ∧ V = V' ∧ F_X5_learntOf 45 a1 a2 V = (y, V)) := by
  refine pm_MT.of (by decide) ⟨Nat.le_refl _, by decide⟩ (fun av V h => by rw [h.1]; exact (by decide : pm_words [(3, 0), (0, 0), (0, 0)] ≤ 4)) ?_
  rintro X av V0 hC - hR ⟨rfl, hV0⟩
  change pm_J X 0 [(0, (3, 45)), (1, (0, a1)), (2, (0, a2))] [] 118 V0
  have hT := F_X5_learntOf_eq 45 a1 a2 V0
  refine pm_iconst (v := 0) hC dX5_learntOf_0 ?_
  refine pm_istore_n (lv' := [(3, (0, 0)), (0, (3, 45)), (1, (0, a1)), (2, (0, a2))]) hC dX5_learntOf_1 (by decide) rfl ?_
  obtain ⟨B3, hB4, hT⟩ := pf_loop hT
  have L6 : ∀ (N8 : Nat) (x1 : Int), (0 ≤ x1 ∧ x1 ≤ 16) → F_X5_learntOf 45 a1 a2 V0 = pf_val ((0 : Int), V0) B3 x1 → (Int.toNat (16 - x1)) = N8 → pm_J X 2 [(0, (3, 45)), (1, (0, a1)), (2, (0, a2)), (3, (0, x1))] [] 118 V0 := by
    intro N8
    induction N8 using Nat.strongRecOn with
    | _ N8 ih9 =>
    intro x1 b2 hT hm7
    have hb5 := congrFun hB4 x1
    refine pm_iload_n hC 3 dX5_learntOf_2 rfl ?_
    refine pm_aload_n hC 0 (by decide) dX5_learntOf_3 rfl ?_
    obtain ⟨y10, e11⟩ : ∃ y, V0 45 10 = y := ⟨_, rfl⟩
    have b12 := hV0.get 45 10 (lo := 0) (hi := 12) (by decide) (by decide) rfl
    rw [e11] at b12
    replace hb5 := hb5.trans (pf_let_eq e11)
    refine pm_getf (v := y10) hC 45 fl_X5_49 rfl rfl (by decide) rfl e11 dX5_learntOf_4 ?_
    refine pm_icmp_ge (tgt := 38) hC ⟨by omega, by omega⟩ ⟨by omega, by omega⟩ dX5_learntOf_7 (by decide) (fun c13 => ?_) (fun c13 => ?_)
    · skip
      replace hb5 := hb5.trans (if_pos c13)
      refine pm_iconst (v := (-1)) hC dX5_learntOf_38 ?_
      have hT := hT.trans (pf_val_inr hb5)
      exact pm_iret hC hR pm_nar0 ⟨(-1), rfl, ⟨by omega, by omega⟩, rfl, hT⟩ dX5_learntOf_39
    · skip
      replace hb5 := hb5.trans (if_neg (Int.not_le.mpr c13))
      refine pm_aload_n hC 0 (by decide) dX5_learntOf_10 rfl ?_
      have e14 : V0 45 11 = 49 := hV0.one 45 11 (by decide) (by decide) rfl
      refine pm_getf (v := 49) hC 45 fl_X5_21 rfl rfl (by decide) rfl e14 dX5_learntOf_11 ?_
      refine pm_iload_n hC 3 dX5_learntOf_14 rfl ?_
      obtain ⟨y15, e16⟩ : ∃ y, V0 49 (x1 : Int).toNat = y := ⟨_, rfl⟩
      replace hb5 := hb5.trans (pf_let_eq e16)
      have b17 := hV0.get 49 (x1 : Int).toNat (lo := 0) (hi := 99) (by decide) (show _ < 12 by omega) rfl
      rw [e16] at b17
      refine pm_iaload (len := 12) (v := y15) hC 49 rfl rfl (by decide) ⟨by omega, by omega⟩ (by decide) e16 dX5_learntOf_15 ?_
      refine pm_iload_n hC 1 dX5_learntOf_16 rfl ?_
      refine pm_bipush (v := 10) hC dX5_learntOf_17 (by decide) ?_
      refine pm_imul hC dX5_learntOf_19 ?_
      refine pm_iload_n hC 2 dX5_learntOf_20 rfl ?_
      refine pm_iadd hC dX5_learntOf_21 ?_
      refine pm_icmp_ne (tgt := 32) hC ⟨by omega, by omega⟩ ⟨by omega, by omega⟩ dX5_learntOf_22 (by decide) (fun c18 => ?_) (fun c18 => ?_)
      · skip
        replace hb5 := hb5.trans (if_pos c18)
        obtain ⟨x19, ei20⟩ : ∃ y : Int, x1 + 1 = y := ⟨_, rfl⟩
        replace hb5 := hb5.trans (pf_let_eq ei20)
        refine pm_iinc (y := x19) (lv' := [(3, (0, x19)), (0, (3, 45)), (1, (0, a1)), (2, (0, a2))]) hC 3 dX5_learntOf_32 (by decide) rfl ei20 rfl ?_
        refine pm_goto (tgt := 2) hC dX5_learntOf_35 (by decide) ?_
        refine pm_lvsub [1, 2, 3, 0] (lv' := [(0, (3, 45)), (1, (0, a1)), (2, (0, a2)), (3, (0, x19))]) rfl ?_
        exact ih9 _ (by omega) x19 ⟨by omega, by omega⟩ (hT.trans (pf_val_inl hb5)) rfl
      · skip
        replace hb5 := hb5.trans (if_neg (fun q => q c18))
        refine pm_aload_n hC 0 (by decide) dX5_learntOf_25 rfl ?_
        have e21 : V0 45 12 = 50 := hV0.one 45 12 (by decide) (by decide) rfl
        refine pm_getf (v := 50) hC 45 fl_X5_24 rfl rfl (by decide) rfl e21 dX5_learntOf_26 ?_
        refine pm_iload_n hC 3 dX5_learntOf_29 rfl ?_
        obtain ⟨y22, e23⟩ : ∃ y, V0 50 (x1 : Int).toNat = y := ⟨_, rfl⟩
        replace hb5 := hb5.trans (pf_let_eq e23)
        have b24 := hV0.get 50 (x1 : Int).toNat (lo := 0) (hi := 8) (by decide) (show _ < 12 by omega) rfl
        rw [e23] at b24
        refine pm_iaload (len := 12) (v := y22) hC 50 rfl rfl (by decide) ⟨by omega, by omega⟩ (by decide) e23 dX5_learntOf_30 ?_
        have hT := hT.trans (pf_val_inr hb5)
        exact pm_iret hC hR pm_nar0 ⟨y22, rfl, ⟨by omega, by omega⟩, rfl, hT⟩ dX5_learntOf_31
  refine pm_lvsub [1, 2, 3, 0] (lv' := [(0, (3, 45)), (1, (0, a1)), (2, (0, a2)), (3, (0, 0))]) rfl ?_
  exact L6 _ 0 ⟨by decide, by decide⟩ hT rfl
set_option maxHeartbeats 4000000 in
set_option maxRecDepth 100000 in
theorem fC_X6_closes_45  : pm_K 3 yX6_closes cX6_closes 1 (some .boolean) (fun av V => av = [(3, 69)] ∧ pm_ok 0 90 V ∧ (45 ≤ V 69 3 ∧ V 69 3 ≤ 45)) (fun _ V r V' => ∃ y, r = some (0, y) ∧ (0 ≤ y ∧ y ≤ 1) ∧ pm_ok 0 90 V' ∧ pm_fr [3] V V' ∧ F_X6_closes 45 V = (y, V')) := by
  refine pm_MT.of (by decide) ⟨Nat.le_refl _, by decide⟩ (fun av V h => by rw [h.1]; exact (by decide : pm_words [(3, 0)] ≤ 1)) ?_
  rintro X av V0 hC - hR ⟨rfl, hV0, hq0⟩
  change pm_J X 0 [(0, (3, 69))] [] 118 V0
  have hT := F_X6_closes_eq 45 V0
  obtain ⟨z0, ez0⟩ : ∃ z, V0 69 3 = z := ⟨_, rfl⟩
  rw [ez0] at hq0
  have en0 : V0 69 3 = 45 := by rw [ez0]; omega
  refine pm_aload_n hC 0 (by decide) dX6_closes_0 rfl ?_
  have e1 : V0 69 0 = 3 := hV0.one 69 0 (by decide) (by decide) rfl
  refine pm_getf (v := 3) hC 69 fl_X6_9 rfl rfl (by decide) rfl e1 dX6_closes_1 ?_
  refine pm_bipush (v := 59) hC dX6_closes_4 (by decide) ?_
  obtain ⟨y2, e3⟩ : ∃ y, V0 3 3 = y := ⟨_, rfl⟩
  have b4 := hV0.get 3 3 (lo := (-9223372036854775808)) (hi := 9223372036854775807) (by decide) (by decide) rfl
  rw [e3] at b4
  replace hT := hT.trans (pf_let_eq e3)
  refine pm_callV (ci := 9) (as := [(0, 59)]) (st := []) hC 3 (fC_X9_isSign 59 ⟨by decide, by decide⟩) lm_X6_167 li_X9_isSign (by decide) (by decide) rfl rfl rfl (by decide) rfl rfl (Nat.le_of_ble_eq_true rfl) ⟨Nat.le_refl _, Or.inl rfl⟩ dX6_closes_6 ⟨rfl, hV0⟩ (fun r5 V6 hp7 => ?_)
  obtain ⟨y8, rfl, b9, rfl, hE10⟩ := hp7
  replace hT := hT.trans (pf_call_eq hE10)
  change pm_J X 9 [(0, (3, 69))] [(0, y8)] 118 V0
  refine pm_if_ne (tgt := 14) hC ⟨by omega, by omega⟩ dX6_closes_9 (by decide) (fun c11 => ?_) (fun c11 => ?_)
  · skip
    replace hT := hT.trans (if_pos c11)
    refine pm_aload_n hC 0 (by decide) dX6_closes_14 rfl ?_
    refine pm_getf (v := 3) hC 69 fl_X6_9 rfl rfl (by decide) rfl e1 dX6_closes_15 ?_
    refine pm_callV (ci := 9) (as := []) (st := []) hC 3 fC_X9_step lm_X6_98 li_X9_step (by decide) (by decide) rfl rfl rfl (by decide) rfl rfl (Nat.le_of_ble_eq_true rfl) ⟨Nat.le_refl _, Or.inl rfl⟩ dX6_closes_18 ⟨rfl, hV0⟩ (fun r12 V13 hp14 => ?_)
    obtain ⟨rfl, hV15, hF16, hE17⟩ := hp14
    replace hT := hT.trans (pf_call_eq hE17)
    change pm_J X 21 [(0, (3, 69))] [] 118 V13
    have hF18 := pm_fr.tr (pm_fr.rf (ws := [3]) (V := V0)) hF16 (by decide)
    have e19 : V13 69 3 = 45 := by rw [hF16 69 (by decide)]; exact en0
    have e20 : V13 69 0 = 3 := by rw [hF16 69 (by decide)]; exact e1
    refine pm_iconst (v := 1) hC dX6_closes_21 ?_
    exact pm_iret hC hR (pm_narZ (by omega)) ⟨1, rfl, ⟨by omega, by omega⟩, hV15, hF18, hT⟩ dX6_closes_22
  · skip
    replace hT := hT.trans (if_neg (fun q => q c11))
    refine pm_iconst (v := 0) hC dX6_closes_12 ?_
    exact pm_iret hC hR (pm_narZ (by omega)) ⟨0, rfl, ⟨by omega, by omega⟩, hV0, (pm_fr.rf (ws := [3]) (V := V0)), hT⟩ dX6_closes_13
set_option maxHeartbeats 4000000 in
set_option maxRecDepth 100000 in
theorem fC_X6_readLearn_45  : pm_K 4 yX6_readLearn cX6_readLearn 5 (some .boolean) (fun av V => av = [(3, 69)] ∧ pm_ok 0 90 V ∧ (45 ≤ V 69 3 ∧ V 69 3 ≤ 45)) (fun _ V r V' => ∃ y, r = some (0, y) ∧ (0 ≤ y ∧ y ≤ 1) ∧ pm_ok 0 90 V' ∧ pm_fr [3, 45, 49, 50] V V' ∧ F_X6_readLearn 45 V = (y, V')) := by
  refine pm_MT.of (by decide) ⟨Nat.le_refl _, by decide⟩ (fun av V h => by rw [h.1]; exact (by decide : pm_words [(3, 0)] ≤ 5)) ?_
  rintro X av V0 hC - hR ⟨rfl, hV0, hq0⟩
  change pm_J X 0 [(0, (3, 69))] [] 118 V0
  have hT := F_X6_readLearn_eq 45 V0
  obtain ⟨z0, ez0⟩ : ∃ z, V0 69 3 = z := ⟨_, rfl⟩
  rw [ez0] at hq0
  have en0 : V0 69 3 = 45 := by rw [ez0]; omega
  refine pm_aload_n hC 0 (by decide) dX6_readLearn_0 rfl ?_
  refine pm_getf (v := 45) hC 69 fl_X6_23 rfl rfl (by decide) rfl en0 dX6_readLearn_1 ?_
  obtain ⟨y1, e2⟩ : ∃ y, V0 45 10 = y := ⟨_, rfl⟩
  have b3 := hV0.get 45 10 (lo := 0) (hi := 12) (by decide) (by decide) rfl
  rw [e2] at b3
  replace hT := hT.trans (pf_let_eq e2)
  refine pm_getf (v := y1) hC 45 fl_X6_154 rfl rfl (by decide) rfl e2 dX6_readLearn_4 ?_
  refine pm_istore_n (lv' := [(1, (0, y1)), (0, (3, 69))]) hC dX6_readLearn_7 (by decide) rfl ?_
  refine pm_iload_n hC 0 dX6_readLearn_8 rfl ?_
  refine pm_bipush (v := 12) hC dX6_readLearn_9 (by decide) ?_
  refine pm_icmp_lt (tgt := 16) hC ⟨by omega, by omega⟩ ⟨by decide, by decide⟩ dX6_readLearn_11 (by decide) (fun c4 => ?_) (fun c4 => ?_)
  · skip
    replace hT := hT.trans (if_pos c4)
    refine pm_aload_n hC 1 (by decide) dX6_readLearn_16 rfl ?_
    have e5 : V0 69 0 = 3 := hV0.one 69 0 (by decide) (by decide) rfl
    refine pm_getf (v := 3) hC 69 fl_X6_9 rfl rfl (by decide) rfl e5 dX6_readLearn_17 ?_
    refine pm_callV (ci := 9) (as := []) (st := []) hC 3 fC_X9_step lm_X6_98 li_X9_step (by decide) (by decide) rfl rfl rfl (by decide) rfl rfl (Nat.le_of_ble_eq_true rfl) ⟨Nat.le_refl _, Or.inl rfl⟩ dX6_readLearn_20 ⟨rfl, hV0⟩ (fun r6 V7 hp8 => ?_)
    obtain ⟨rfl, hV9, hF10, hE11⟩ := hp8
    replace hT := hT.trans (pf_call_eq hE11)
    change pm_J X 23 [(1, (0, y1)), (0, (3, 69))] [] 118 V7
    have hF12 := pm_fr.tr (pm_fr.rf (ws := [3, 45, 49, 50]) (V := V0)) hF10 (by decide)
    have e13 : V7 69 3 = 45 := by rw [hF10 69 (by decide)]; exact en0
    have e14 : V7 45 10 = y1 := by rw [hF10 45 (by decide)]; exact e2
    have e15 : V7 69 0 = 3 := by rw [hF10 69 (by decide)]; exact e5
    refine pm_aload_n hC 1 (by decide) dX6_readLearn_23 rfl ?_
    have q19 : 45 ≤ V7 69 3 ∧ V7 69 3 ≤ 45 := by (have e : V7 69 3 = 45 := e13); rw [e]; exact ⟨by decide, by decide⟩
    refine pm_callV (ci := 6) (as := []) (st := []) hC 69 fC_X6_findName_45 lm_X6_104 li_X6_findName (by decide) (by decide) rfl rfl rfl (by decide) rfl rfl (Nat.le_of_ble_eq_true rfl) ⟨Nat.le_refl _, Or.inl rfl⟩ dX6_readLearn_24 ⟨rfl, hV9, q19⟩ (fun r16 V17 hp18 => ?_)
    obtain ⟨y20, rfl, b21, rfl, hE22⟩ := hp18
    replace hT := hT.trans (pf_call_eq hE22)
    change pm_J X 27 [(1, (0, y1)), (0, (3, 69))] [(0, y20)] 118 V7
    refine pm_istore_n (lv' := [(2, (0, y20)), (1, (0, y1)), (0, (3, 69))]) hC dX6_readLearn_27 (by decide) rfl ?_
    refine pm_iload_n hC 0 dX6_readLearn_28 rfl ?_
    refine pm_iconst (v := (-1)) hC dX6_readLearn_29 ?_
    refine pm_icmp_ne (tgt := 35) hC ⟨by omega, by omega⟩ ⟨by decide, by decide⟩ dX6_readLearn_30 (by decide) (fun c23 => ?_) (fun c23 => ?_)
    · skip
      replace hT := hT.trans (if_pos c23)
      refine pm_aload_n hC 2 (by decide) dX6_readLearn_35 rfl ?_
      refine pm_getf (v := 3) hC 69 fl_X6_9 rfl rfl (by decide) rfl e15 dX6_readLearn_36 ?_
      refine pm_callV (ci := 9) (as := []) (st := []) hC 3 fC_X9_step lm_X6_98 li_X9_step (by decide) (by decide) rfl rfl rfl (by decide) rfl rfl (Nat.le_of_ble_eq_true rfl) ⟨Nat.le_refl _, Or.inl rfl⟩ dX6_readLearn_39 ⟨rfl, hV9⟩ (fun r24 V25 hp26 => ?_)
      obtain ⟨rfl, hV27, hF28, hE29⟩ := hp26
      replace hT := hT.trans (pf_call_eq hE29)
      change pm_J X 42 [(2, (0, y20)), (1, (0, y1)), (0, (3, 69))] [] 118 V25
      have hF30 := pm_fr.tr hF12 hF28 (by decide)
      have e31 : V25 69 3 = 45 := by rw [hF28 69 (by decide)]; exact e13
      have e32 : V25 45 10 = y1 := by rw [hF28 45 (by decide)]; exact e14
      have e33 : V25 69 0 = 3 := by rw [hF28 69 (by decide)]; exact e15
      refine pm_aload_n hC 2 (by decide) dX6_readLearn_42 rfl ?_
      have q37 : 45 ≤ V25 69 3 ∧ V25 69 3 ≤ 45 := by (have e : V25 69 3 = 45 := e31); rw [e]; exact ⟨by decide, by decide⟩
      refine pm_callV (ci := 6) (as := []) (st := []) hC 69 fC_X6_findName_45 lm_X6_104 li_X6_findName (by decide) (by decide) rfl rfl rfl (by decide) rfl rfl (Nat.le_of_ble_eq_true rfl) ⟨Nat.le_refl _, Or.inl rfl⟩ dX6_readLearn_43 ⟨rfl, hV27, q37⟩ (fun r34 V35 hp36 => ?_)
      obtain ⟨y38, rfl, b39, rfl, hE40⟩ := hp36
      replace hT := hT.trans (pf_call_eq hE40)
      change pm_J X 46 [(2, (0, y20)), (1, (0, y1)), (0, (3, 69))] [(0, y38)] 118 V25
      refine pm_istore_n (lv' := [(3, (0, y38)), (2, (0, y20)), (1, (0, y1)), (0, (3, 69))]) hC dX6_readLearn_46 (by decide) rfl ?_
      refine pm_iload_n hC 0 dX6_readLearn_47 rfl ?_
      refine pm_iconst (v := (-1)) hC dX6_readLearn_48 ?_
      refine pm_icmp_eq (tgt := 65) hC ⟨by omega, by omega⟩ ⟨by decide, by decide⟩ dX6_readLearn_49 (by decide) (fun c41 => ?_) (fun c41 => ?_)
      · skip
        replace hT := hT.trans (if_pos c41)
        refine pm_iconst (v := 0) hC dX6_readLearn_65 ?_
        exact pm_iret hC hR (pm_narZ (by omega)) ⟨0, rfl, ⟨by omega, by omega⟩, hV27, hF30, hT⟩ dX6_readLearn_66
      · skip
        replace hT := hT.trans (if_neg c41)
        refine pm_aload_n hC 3 (by decide) dX6_readLearn_52 rfl ?_
        refine pm_getf (v := 45) hC 69 fl_X6_23 rfl rfl (by decide) rfl e31 dX6_readLearn_53 ?_
        refine pm_iload_n hC 1 dX6_readLearn_56 rfl ?_
        refine pm_iload_n hC 0 dX6_readLearn_57 rfl ?_
        refine pm_callV (ci := 5) (as := [(0, y20), (0, y38)]) (st := []) hC 45 (fC_X5_learntOf_45 y20 y38 ⟨by omega, by omega⟩ ⟨by omega, by omega⟩) lm_X6_157 li_X5_learntOf (by decide) (by decide) rfl rfl rfl (by decide) rfl rfl (Nat.le_of_ble_eq_true rfl) ⟨Nat.le_refl _, Or.inl rfl⟩ dX6_readLearn_58 ⟨rfl, hV27⟩ (fun r42 V43 hp44 => ?_)
        obtain ⟨y45, rfl, b46, rfl, hE47⟩ := hp44
        replace hT := hT.trans (pf_call_eq hE47)
        change pm_J X 61 [(3, (0, y38)), (2, (0, y20)), (1, (0, y1)), (0, (3, 69))] [(0, y45)] 118 V25
        refine pm_iconst (v := (-1)) hC dX6_readLearn_61 ?_
        refine pm_icmp_eq (tgt := 67) hC ⟨by omega, by omega⟩ ⟨by decide, by decide⟩ dX6_readLearn_62 (by decide) (fun c48 => ?_) (fun c48 => ?_)
        · skip
          replace hT := hT.trans (if_pos c48)
          refine pm_aload_n hC 3 (by decide) dX6_readLearn_67 rfl ?_
          refine pm_getf (v := 3) hC 69 fl_X6_9 rfl rfl (by decide) rfl e33 dX6_readLearn_68 ?_
          refine pm_callV (ci := 9) (as := []) (st := []) hC 3 fC_X9_step lm_X6_98 li_X9_step (by decide) (by decide) rfl rfl rfl (by decide) rfl rfl (Nat.le_of_ble_eq_true rfl) ⟨Nat.le_refl _, Or.inl rfl⟩ dX6_readLearn_71 ⟨rfl, hV27⟩ (fun r49 V50 hp51 => ?_)
          obtain ⟨rfl, hV52, hF53, hE54⟩ := hp51
          replace hT := hT.trans (pf_call_eq hE54)
          change pm_J X 74 [(3, (0, y38)), (2, (0, y20)), (1, (0, y1)), (0, (3, 69))] [] 118 V50
          have hF55 := pm_fr.tr hF30 hF53 (by decide)
          have e56 : V50 69 3 = 45 := by rw [hF53 69 (by decide)]; exact e31
          have e57 : V50 45 10 = y1 := by rw [hF53 45 (by decide)]; exact e32
          have e58 : V50 69 0 = 3 := by rw [hF53 69 (by decide)]; exact e33
          refine pm_aload_n hC 3 (by decide) dX6_readLearn_74 rfl ?_
          have q62 : 45 ≤ V50 69 3 ∧ V50 69 3 ≤ 45 := by (have e : V50 69 3 = 45 := e56); rw [e]; exact ⟨by decide, by decide⟩
          refine pm_callV (ci := 6) (as := []) (st := []) hC 69 fC_X6_findName_45 lm_X6_104 li_X6_findName (by decide) (by decide) rfl rfl rfl (by decide) rfl rfl (Nat.le_of_ble_eq_true rfl) ⟨Nat.le_refl _, Or.inl rfl⟩ dX6_readLearn_75 ⟨rfl, hV52, q62⟩ (fun r59 V60 hp61 => ?_)
          obtain ⟨y63, rfl, b64, rfl, hE65⟩ := hp61
          replace hT := hT.trans (pf_call_eq hE65)
          change pm_J X 78 [(3, (0, y38)), (2, (0, y20)), (1, (0, y1)), (0, (3, 69))] [(0, y63)] 118 V50
          refine pm_istore (lv' := [(4, (0, y63)), (3, (0, y38)), (2, (0, y20)), (1, (0, y1)), (0, (3, 69))]) hC dX6_readLearn_78 (by decide) rfl ?_
          refine pm_iload hC 0 dX6_readLearn_80 rfl ?_
          refine pm_iconst (v := (-1)) hC dX6_readLearn_82 ?_
          refine pm_icmp_ne (tgt := 88) hC ⟨by omega, by omega⟩ ⟨by decide, by decide⟩ dX6_readLearn_83 (by decide) (fun c66 => ?_) (fun c66 => ?_)
          · skip
            replace hT := hT.trans (if_pos c66)
            refine pm_aload_n hC 4 (by decide) dX6_readLearn_88 rfl ?_
            refine pm_getf (v := 45) hC 69 fl_X6_23 rfl rfl (by decide) rfl e56 dX6_readLearn_89 ?_
            have e67 : V50 45 11 = 49 := hV52.one 45 11 (by decide) (by decide) rfl
            refine pm_getf (v := 49) hC 45 fl_X6_161 rfl rfl (by decide) rfl e67 dX6_readLearn_92 ?_
            refine pm_iload_n hC 3 dX6_readLearn_95 rfl ?_
            refine pm_iload_n hC 2 dX6_readLearn_96 rfl ?_
            refine pm_bipush (v := 10) hC dX6_readLearn_97 (by decide) ?_
            refine pm_imul hC dX6_readLearn_99 ?_
            refine pm_iload_n hC 1 dX6_readLearn_100 rfl ?_
            refine pm_iadd hC dX6_readLearn_101 ?_
            refine pm_iastore (len := 12) hC 49 rfl rfl (by decide) ⟨by omega, by omega⟩ (by decide) dX6_readLearn_102 ?_
            refine pm_aload_n hC 4 (by decide) dX6_readLearn_103 rfl ?_
            refine pm_getf (v := 45) hC 69 fl_X6_23 rfl rfl (by decide) rfl e56 dX6_readLearn_104 ?_
            have e68 : V50 45 12 = 50 := hV52.one 45 12 (by decide) (by decide) rfl
            refine pm_getf (v := 50) hC 45 fl_X6_164 rfl rfl (by decide) rfl e68 dX6_readLearn_107 ?_
            refine pm_iload_n hC 3 dX6_readLearn_110 rfl ?_
            refine pm_iload hC 0 dX6_readLearn_111 rfl ?_
            refine pm_iastore (len := 12) hC 50 rfl rfl (by decide) ⟨by omega, by omega⟩ (by decide) dX6_readLearn_113 ?_
            refine pm_aload_n hC 4 (by decide) dX6_readLearn_114 rfl ?_
            refine pm_getf (v := 45) hC 69 fl_X6_23 rfl rfl (by decide) rfl e56 dX6_readLearn_115 ?_
            refine pm_iload_n hC 3 dX6_readLearn_118 rfl ?_
            refine pm_iconst (v := 1) hC dX6_readLearn_119 ?_
            refine pm_iadd hC dX6_readLearn_120 ?_
            refine pm_putf hC 45 fl_X6_154 rfl rfl rfl (by decide) rfl trivial dX6_readLearn_121 ?_
            refine pm_aload_n hC 4 (by decide) dX6_readLearn_124 rfl ?_
            refine pm_getf (v := 3) hC 69 fl_X6_9 rfl rfl (by decide) rfl e58 dX6_readLearn_125 ?_
            refine pm_callV (ci := 9) (as := []) (st := []) hC 3 fC_X9_step lm_X6_98 li_X9_step (by decide) (by decide) rfl rfl rfl (by decide) rfl rfl (Nat.le_of_ble_eq_true rfl) ⟨Nat.le_refl _, Or.inl rfl⟩ dX6_readLearn_128 ⟨rfl, (((hV52.put 49 (y1 : Int).toNat (x := ((y20 * 10) + y38)) (lo := 0) (hi := 99) rfl ⟨by omega, by omega⟩).put 50 (y1 : Int).toNat (x := y63) (lo := 0) (hi := 8) rfl ⟨by omega, by omega⟩).put 45 10 (x := (y1 + 1)) (lo := 0) (hi := 12) rfl ⟨by omega, by omega⟩)⟩ (fun r69 V70 hp71 => ?_)
            obtain ⟨rfl, hV72, hF73, hE74⟩ := hp71
            replace hT := hT.trans (pf_call_eq hE74)
            change pm_J X 131 [(4, (0, y63)), (3, (0, y38)), (2, (0, y20)), (1, (0, y1)), (0, (3, 69))] [] 118 V70
            have hF75 := pm_fr.tr (((hF55.up 49 (y1 : Int).toNat ((y20 * 10) + y38) rfl).up 50 (y1 : Int).toNat y63 rfl).up 45 10 (y1 + 1) rfl) hF73 (by decide)
            have e76 : V70 69 3 = 45 := by rw [hF73 69 (by decide)]; exact e56
            have e77 : V70 69 0 = 3 := by rw [hF73 69 (by decide)]; exact e58
            have e78 : V70 45 11 = 49 := by rw [hF73 45 (by decide)]; exact e67
            have e79 : V70 45 12 = 50 := by rw [hF73 45 (by decide)]; exact e68
            have e80 : V70 45 10 = (y1 + 1) := by rw [hF73 45 (by decide)]; rfl
            refine pm_aload_n hC 4 (by decide) dX6_readLearn_131 rfl ?_
            have q84 : 45 ≤ V70 69 3 ∧ V70 69 3 ≤ 45 := by (have e : V70 69 3 = 45 := e76); rw [e]; exact ⟨by decide, by decide⟩
            refine pm_callV (ci := 6) (as := []) (st := []) hC 69 fC_X6_closes_45 lm_X6_129 li_X6_closes (by decide) (by decide) rfl rfl rfl (by decide) rfl rfl (Nat.le_of_ble_eq_true rfl) ⟨Nat.le_refl _, Or.inl rfl⟩ dX6_readLearn_132 ⟨rfl, hV72, q84⟩ (fun r81 V82 hp83 => ?_)
            obtain ⟨y85, rfl, b86, hV87, hF88, hE89⟩ := hp83
            replace hT := hT.trans (pf_call_eq hE89)
            change pm_J X 135 [(4, (0, y63)), (3, (0, y38)), (2, (0, y20)), (1, (0, y1)), (0, (3, 69))] [(0, y85)] 118 V82
            have hF90 := pm_fr.tr hF75 hF88 (by decide)
            have e91 : V82 69 3 = 45 := by rw [hF88 69 (by decide)]; exact e76
            have e92 : V82 69 0 = 3 := by rw [hF88 69 (by decide)]; exact e77
            have e93 : V82 45 11 = 49 := by rw [hF88 45 (by decide)]; exact e78
            have e94 : V82 45 12 = 50 := by rw [hF88 45 (by decide)]; exact e79
            have e95 : V82 45 10 = (y1 + 1) := by rw [hF88 45 (by decide)]; exact e80
            exact pm_iret hC hR (pm_narZ (by omega)) ⟨y85, rfl, ⟨by omega, by omega⟩, hV87, hF90, hT⟩ dX6_readLearn_135
          · skip
            replace hT := hT.trans (if_neg (fun q => q c66))
            refine pm_iconst (v := 0) hC dX6_readLearn_86 ?_
            exact pm_iret hC hR (pm_narZ (by omega)) ⟨0, rfl, ⟨by omega, by omega⟩, hV52, hF55, hT⟩ dX6_readLearn_87
        · skip
          replace hT := hT.trans (if_neg c48)
          refine pm_iconst (v := 0) hC dX6_readLearn_65 ?_
          exact pm_iret hC hR (pm_narZ (by omega)) ⟨0, rfl, ⟨by omega, by omega⟩, hV27, hF30, hT⟩ dX6_readLearn_66
    · skip
      replace hT := hT.trans (if_neg (fun q => q c23))
      refine pm_iconst (v := 0) hC dX6_readLearn_33 ?_
      exact pm_iret hC hR (pm_narZ (by omega)) ⟨0, rfl, ⟨by omega, by omega⟩, hV9, hF12, hT⟩ dX6_readLearn_34
  · skip
    replace hT := hT.trans (if_neg (Int.not_lt.mpr c4))
    refine pm_iconst (v := 0) hC dX6_readLearn_14 ?_
    exact pm_iret hC hR (pm_narZ (by omega)) ⟨0, rfl, ⟨by omega, by omega⟩, hV0, (pm_fr.rf (ws := [3, 45, 49, 50]) (V := V0)), hT⟩ dX6_readLearn_15
set_option maxHeartbeats 4000000 in
set_option maxRecDepth 100000 in
theorem fC_X6_readHold_45  : pm_K 4 yX6_readHold cX6_readHold 2 (some .boolean) (fun av V => av = [(3, 69)] ∧ pm_ok 0 90 V ∧ (45 ≤ V 69 3 ∧ V 69 3 ≤ 45)) (fun _ V r V' => ∃ y, r = some (0, y) ∧ (0 ≤ y ∧ y ≤ 1) ∧ pm_ok 0 90 V' ∧ pm_fr [3, 48, 71] V V' ∧ F_X6_readHold 45 V = (y, V')) := by
  refine pm_MT.of (by decide) ⟨Nat.le_refl _, by decide⟩ (fun av V h => by rw [h.1]; exact (by decide : pm_words [(3, 0)] ≤ 2)) ?_
  rintro X av V0 hC - hR ⟨rfl, hV0, hq0⟩
  change pm_J X 0 [(0, (3, 69))] [] 118 V0
  have hT := F_X6_readHold_eq 45 V0
  obtain ⟨z0, ez0⟩ : ∃ z, V0 69 3 = z := ⟨_, rfl⟩
  rw [ez0] at hq0
  have en0 : V0 69 3 = 45 := by rw [ez0]; omega
  refine pm_aload_n hC 0 (by decide) dX6_readHold_0 rfl ?_
  have e1 : V0 69 0 = 3 := hV0.one 69 0 (by decide) (by decide) rfl
  refine pm_getf (v := 3) hC 69 fl_X6_9 rfl rfl (by decide) rfl e1 dX6_readHold_1 ?_
  refine pm_callV (ci := 9) (as := []) (st := []) hC 3 fC_X9_step lm_X6_98 li_X9_step (by decide) (by decide) rfl rfl rfl (by decide) rfl rfl (Nat.le_of_ble_eq_true rfl) ⟨Nat.le_refl _, Or.inl rfl⟩ dX6_readHold_4 ⟨rfl, hV0⟩ (fun r2 V3 hp4 => ?_)
  obtain ⟨rfl, hV5, hF6, hE7⟩ := hp4
  replace hT := hT.trans (pf_call_eq hE7)
  change pm_J X 7 [(0, (3, 69))] [] 118 V3
  have hF8 := pm_fr.tr (pm_fr.rf (ws := [3, 48, 71]) (V := V0)) hF6 (by decide)
  have e9 : V3 69 3 = 45 := by rw [hF6 69 (by decide)]; exact en0
  have e10 : V3 69 0 = 3 := by rw [hF6 69 (by decide)]; exact e1
  refine pm_aload_n hC 0 (by decide) dX6_readHold_7 rfl ?_
  have q14 : 45 ≤ V3 69 3 ∧ V3 69 3 ≤ 45 := by (have e : V3 69 3 = 45 := e9); rw [e]; exact ⟨by decide, by decide⟩
  refine pm_callV (ci := 6) (as := []) (st := []) hC 69 fC_X6_findName_45 lm_X6_104 li_X6_findName (by decide) (by decide) rfl rfl rfl (by decide) rfl rfl (Nat.le_of_ble_eq_true rfl) ⟨Nat.le_refl _, Or.inl rfl⟩ dX6_readHold_8 ⟨rfl, hV5, q14⟩ (fun r11 V12 hp13 => ?_)
  obtain ⟨y15, rfl, b16, rfl, hE17⟩ := hp13
  replace hT := hT.trans (pf_call_eq hE17)
  change pm_J X 11 [(0, (3, 69))] [(0, y15)] 118 V3
  refine pm_istore_n (lv' := [(1, (0, y15)), (0, (3, 69))]) hC dX6_readHold_11 (by decide) rfl ?_
  refine pm_iload_n hC 0 dX6_readHold_12 rfl ?_
  refine pm_iconst (v := (-1)) hC dX6_readHold_13 ?_
  refine pm_icmp_eq (tgt := 26) hC ⟨by omega, by omega⟩ ⟨by decide, by decide⟩ dX6_readHold_14 (by decide) (fun c18 => ?_) (fun c18 => ?_)
  · skip
    replace hT := hT.trans (if_pos c18)
    refine pm_iconst (v := 0) hC dX6_readHold_26 ?_
    exact pm_iret hC hR (pm_narZ (by omega)) ⟨0, rfl, ⟨by omega, by omega⟩, hV5, hF8, hT⟩ dX6_readHold_27
  · skip
    replace hT := hT.trans (if_neg c18)
    refine pm_aload_n hC 1 (by decide) dX6_readHold_17 rfl ?_
    have e19 : V3 69 2 = 71 := hV5.one 69 2 (by decide) (by decide) rfl
    refine pm_getf (v := 71) hC 69 fl_X6_19 rfl rfl (by decide) rfl e19 dX6_readHold_18 ?_
    refine pm_iload_n hC 0 dX6_readHold_21 rfl ?_
    obtain ⟨y20, e21⟩ : ∃ y, V3 71 (y15 : Int).toNat = y := ⟨_, rfl⟩
    replace hT := hT.trans (pf_let_eq e21)
    have b22 := hV5.get 71 (y15 : Int).toNat (lo := 0) (hi := 1) (by decide) (show _ < 9 by omega) rfl
    rw [e21] at b22
    refine pm_zaload (len := 9) (v := y20) hC 71 rfl rfl (by decide) ⟨by omega, by omega⟩ (by decide) e21 dX6_readHold_22 ?_
    refine pm_if_eq (tgt := 28) hC ⟨by omega, by omega⟩ dX6_readHold_23 (by decide) (fun c23 => ?_) (fun c23 => ?_)
    · skip
      replace hT := hT.trans (if_pos c23)
      refine pm_aload_n hC 1 (by decide) dX6_readHold_28 rfl ?_
      refine pm_getf (v := 3) hC 69 fl_X6_9 rfl rfl (by decide) rfl e10 dX6_readHold_29 ?_
      refine pm_callV (ci := 9) (as := []) (st := []) hC 3 fC_X9_step lm_X6_98 li_X9_step (by decide) (by decide) rfl rfl rfl (by decide) rfl rfl (Nat.le_of_ble_eq_true rfl) ⟨Nat.le_refl _, Or.inl rfl⟩ dX6_readHold_32 ⟨rfl, hV5⟩ (fun r24 V25 hp26 => ?_)
      obtain ⟨rfl, hV27, hF28, hE29⟩ := hp26
      replace hT := hT.trans (pf_call_eq hE29)
      change pm_J X 35 [(1, (0, y15)), (0, (3, 69))] [] 118 V25
      have hF30 := pm_fr.tr hF8 hF28 (by decide)
      have e31 : V25 69 3 = 45 := by rw [hF28 69 (by decide)]; exact e9
      have e32 : V25 69 0 = 3 := by rw [hF28 69 (by decide)]; exact e10
      have e33 : V25 69 2 = 71 := by rw [hF28 69 (by decide)]; exact e19
      refine pm_aload_n hC 1 (by decide) dX6_readHold_35 rfl ?_
      refine pm_getf (v := 3) hC 69 fl_X6_9 rfl rfl (by decide) rfl e32 dX6_readHold_36 ?_
      refine pm_iconst (v := 1) hC dX6_readHold_39 ?_
      refine pm_bipush (v := 9) hC dX6_readHold_40 (by decide) ?_
      obtain ⟨y34, e35⟩ : ∃ y, V25 3 3 = y := ⟨_, rfl⟩
      have b36 := hV27.get 3 3 (lo := (-9223372036854775808)) (hi := 9223372036854775807) (by decide) (by decide) rfl
      rw [e35] at b36
      replace hT := hT.trans (pf_let_eq e35)
      refine pm_callV (ci := 9) (as := [(0, 1), (0, 9)]) (st := []) hC 3 (fC_X9_isNumber 1 9 ⟨by decide, by decide⟩ ⟨by decide, by decide⟩) lm_X6_112 li_X9_isNumber (by decide) (by decide) rfl rfl rfl (by decide) rfl rfl (Nat.le_of_ble_eq_true rfl) ⟨Nat.le_refl _, Or.inl rfl⟩ dX6_readHold_42 ⟨rfl, hV27⟩ (fun r37 V38 hp39 => ?_)
      obtain ⟨y40, rfl, b41, rfl, hE42⟩ := hp39
      replace hT := hT.trans (pf_call_eq hE42)
      change pm_J X 45 [(1, (0, y15)), (0, (3, 69))] [(0, y40)] 118 V25
      refine pm_if_ne (tgt := 50) hC ⟨by omega, by omega⟩ dX6_readHold_45 (by decide) (fun c43 => ?_) (fun c43 => ?_)
      · skip
        replace hT := hT.trans (if_pos c43)
        refine pm_aload_n hC 1 (by decide) dX6_readHold_50 rfl ?_
        refine pm_getf (v := 71) hC 69 fl_X6_19 rfl rfl (by decide) rfl e33 dX6_readHold_51 ?_
        refine pm_iload_n hC 0 dX6_readHold_54 rfl ?_
        refine pm_iconst (v := 1) hC dX6_readHold_55 ?_
        refine pm_zastore (len := 9) hC 71 rfl rfl (by decide) ⟨by omega, by omega⟩ (by decide) (by omega) dX6_readHold_56 ?_
        refine pm_aload_n hC 1 (by decide) dX6_readHold_57 rfl ?_
        refine pm_getf (v := 45) hC 69 fl_X6_23 rfl rfl (by decide) rfl e31 dX6_readHold_58 ?_
        have e44 : V25 45 3 = 48 := hV27.one 45 3 (by decide) (by decide) rfl
        refine pm_getf (v := 48) hC 45 fl_X6_126 rfl rfl (by decide) rfl e44 dX6_readHold_61 ?_
        refine pm_iload_n hC 0 dX6_readHold_64 rfl ?_
        refine pm_aload_n hC 1 (by decide) dX6_readHold_65 rfl ?_
        refine pm_getf (v := 3) hC 69 fl_X6_9 rfl rfl (by decide) rfl e32 dX6_readHold_66 ?_
        refine pm_getf (v := y34) hC 3 fl_X6_108 rfl rfl (by decide) rfl e35 dX6_readHold_69 ?_
        refine pm_l2i hC dX6_readHold_72 ?_
        refine pm_iastore (len := 9) hC 48 rfl rfl (by decide) ⟨by omega, by omega⟩ (by decide) dX6_readHold_73 ?_
        refine pm_aload_n hC 1 (by decide) dX6_readHold_74 rfl ?_
        refine pm_getf (v := 3) hC 69 fl_X6_9 rfl rfl (by decide) rfl e32 dX6_readHold_75 ?_
        refine pm_callV (ci := 9) (as := []) (st := []) hC 3 fC_X9_step lm_X6_98 li_X9_step (by decide) (by decide) rfl rfl rfl (by decide) rfl rfl (Nat.le_of_ble_eq_true rfl) ⟨Nat.le_refl _, Or.inl rfl⟩ dX6_readHold_78 ⟨rfl, ((hV27.put 71 (y15 : Int).toNat (x := 1) (lo := 0) (hi := 1) rfl ⟨by decide, by decide⟩).put 48 (y15 : Int).toNat (x := y34) (lo := 0) (hi := 9) rfl ⟨by omega, by omega⟩)⟩ (fun r45 V46 hp47 => ?_)
        obtain ⟨rfl, hV48, hF49, hE50⟩ := hp47
        replace hT := hT.trans (pf_call_eq hE50)
        change pm_J X 81 [(1, (0, y15)), (0, (3, 69))] [] 118 V46
        have hF51 := pm_fr.tr ((hF30.up 71 (y15 : Int).toNat 1 rfl).up 48 (y15 : Int).toNat y34 rfl) hF49 (by decide)
        have e52 : V46 69 3 = 45 := by rw [hF49 69 (by decide)]; exact e31
        have e53 : V46 69 0 = 3 := by rw [hF49 69 (by decide)]; exact e32
        have e54 : V46 69 2 = 71 := by rw [hF49 69 (by decide)]; exact e33
        have e55 : V46 45 3 = 48 := by rw [hF49 45 (by decide)]; exact e44
        refine pm_aload_n hC 1 (by decide) dX6_readHold_81 rfl ?_
        have q59 : 45 ≤ V46 69 3 ∧ V46 69 3 ≤ 45 := by (have e : V46 69 3 = 45 := e52); rw [e]; exact ⟨by decide, by decide⟩
        refine pm_callV (ci := 6) (as := []) (st := []) hC 69 fC_X6_closes_45 lm_X6_129 li_X6_closes (by decide) (by decide) rfl rfl rfl (by decide) rfl rfl (Nat.le_of_ble_eq_true rfl) ⟨Nat.le_refl _, Or.inl rfl⟩ dX6_readHold_82 ⟨rfl, hV48, q59⟩ (fun r56 V57 hp58 => ?_)
        obtain ⟨y60, rfl, b61, hV62, hF63, hE64⟩ := hp58
        replace hT := hT.trans (pf_call_eq hE64)
        change pm_J X 85 [(1, (0, y15)), (0, (3, 69))] [(0, y60)] 118 V57
        have hF65 := pm_fr.tr hF51 hF63 (by decide)
        have e66 : V57 69 3 = 45 := by rw [hF63 69 (by decide)]; exact e52
        have e67 : V57 69 0 = 3 := by rw [hF63 69 (by decide)]; exact e53
        have e68 : V57 69 2 = 71 := by rw [hF63 69 (by decide)]; exact e54
        have e69 : V57 45 3 = 48 := by rw [hF63 45 (by decide)]; exact e55
        exact pm_iret hC hR (pm_narZ (by omega)) ⟨y60, rfl, ⟨by omega, by omega⟩, hV62, hF65, hT⟩ dX6_readHold_85
      · skip
        replace hT := hT.trans (if_neg (fun q => q c43))
        refine pm_iconst (v := 0) hC dX6_readHold_48 ?_
        exact pm_iret hC hR (pm_narZ (by omega)) ⟨0, rfl, ⟨by omega, by omega⟩, hV27, hF30, hT⟩ dX6_readHold_49
    · skip
      replace hT := hT.trans (if_neg c23)
      refine pm_iconst (v := 0) hC dX6_readHold_26 ?_
      exact pm_iret hC hR (pm_narZ (by omega)) ⟨0, rfl, ⟨by omega, by omega⟩, hV5, hF8, hT⟩ dX6_readHold_27
set_option maxHeartbeats 4000000 in
set_option maxRecDepth 100000 in
theorem fC_X6_readNumbers_45 (a1 a2 a3 a4 : Int) (h0 : 0 ≤ a1 ∧ a1 ≤ 60) (h1 : 0 ≤ a2 ∧ a2 ≤ 60) (h2 : 0 ≤ a3 ∧ a3 ≤ 99) (h3 : 0 ≤ a4 ∧ a4 ≤ 99) : pm_K 3 yX6_readNumbers cX6_readNumbers 5 (some .boolean) (fun av V => av = [(3, 69), (0, a1), (0, a2), (0, a3), (0, a4)] ∧ pm_ok 0 90 V ∧ (45 ≤ V 69 3 ∧ V 69 3 ≤ 45)) (fun _ V r V' => ∃ y, r = some (0, y) ∧ (0 ≤ y ∧ y ≤ 1 ∧ (y = 1 → a1 ≤ V' 69 5 ∧ V' 69 5 ≤ a2 ∧ a3 ≤ V' 69 6 ∧ V' 69 6 ≤ a4)) ∧ pm_ok 0 90 V' ∧ pm_fr [3, 69] V V' ∧ (45 ≤ V' 69 3 ∧ V' 69 3 ≤ 45) ∧ F_X6_readNumbers 45 a1 a2 a3 a4 V = (y, V')) := by
  refine pm_MT.of (by decide) ⟨Nat.le_refl _, by decide⟩ (fun av V h => by rw [h.1]; exact (by decide : pm_words [(3, 0), (0, 0), (0, 0), (0, 0), (0, 0)] ≤ 5)) ?_
  rintro X av V0 hC - hR ⟨rfl, hV0, hq0⟩
  change pm_J X 0 [(0, (3, 69)), (1, (0, a1)), (2, (0, a2)), (3, (0, a3)), (4, (0, a4))] [] 118 V0
  have hT := F_X6_readNumbers_eq 45 a1 a2 a3 a4 V0
  obtain ⟨z0, ez0⟩ : ∃ z, V0 69 3 = z := ⟨_, rfl⟩
  rw [ez0] at hq0
  have en0 : V0 69 3 = 45 := by rw [ez0]; omega
  refine pm_aload_n hC 0 (by decide) dX6_readNumbers_0 rfl ?_
  have e1 : V0 69 0 = 3 := hV0.one 69 0 (by decide) (by decide) rfl
  refine pm_getf (v := 3) hC 69 fl_X6_9 rfl rfl (by decide) rfl e1 dX6_readNumbers_1 ?_
  refine pm_callV (ci := 9) (as := []) (st := []) hC 3 fC_X9_step lm_X6_98 li_X9_step (by decide) (by decide) rfl rfl rfl (by decide) rfl rfl (Nat.le_of_ble_eq_true rfl) ⟨Nat.le_refl _, Or.inl rfl⟩ dX6_readNumbers_4 ⟨rfl, hV0⟩ (fun r2 V3 hp4 => ?_)
  obtain ⟨rfl, hV5, hF6, hE7⟩ := hp4
  replace hT := hT.trans (pf_call_eq hE7)
  change pm_J X 7 [(0, (3, 69)), (1, (0, a1)), (2, (0, a2)), (3, (0, a3)), (4, (0, a4))] [] 118 V3
  have hF8 := pm_fr.tr (pm_fr.rf (ws := [3, 69]) (V := V0)) hF6 (by decide)
  have e9 : V3 69 3 = 45 := by rw [hF6 69 (by decide)]; exact en0
  have e10 : V3 69 0 = 3 := by rw [hF6 69 (by decide)]; exact e1
  refine pm_aload_n hC 0 (by decide) dX6_readNumbers_7 rfl ?_
  refine pm_getf (v := 3) hC 69 fl_X6_9 rfl rfl (by decide) rfl e10 dX6_readNumbers_8 ?_
  refine pm_iload_n hC 1 dX6_readNumbers_11 rfl ?_
  refine pm_iload_n hC 2 dX6_readNumbers_12 rfl ?_
  obtain ⟨y11, e12⟩ : ∃ y, V3 3 3 = y := ⟨_, rfl⟩
  have b13 := hV5.get 3 3 (lo := (-9223372036854775808)) (hi := 9223372036854775807) (by decide) (by decide) rfl
  rw [e12] at b13
  replace hT := hT.trans (pf_let_eq e12)
  refine pm_callV (ci := 9) (as := [(0, a1), (0, a2)]) (st := []) hC 3 (fC_X9_isNumber a1 a2 ⟨by omega, by omega⟩ ⟨by omega, by omega⟩) lm_X6_112 li_X9_isNumber (by decide) (by decide) rfl rfl rfl (by decide) rfl rfl (Nat.le_of_ble_eq_true rfl) ⟨Nat.le_refl _, Or.inl rfl⟩ dX6_readNumbers_13 ⟨rfl, hV5⟩ (fun r14 V15 hp16 => ?_)
  obtain ⟨y17, rfl, b18, rfl, hE19⟩ := hp16
  replace hT := hT.trans (pf_call_eq hE19)
  change pm_J X 16 [(0, (3, 69)), (1, (0, a1)), (2, (0, a2)), (3, (0, a3)), (4, (0, a4))] [(0, y17)] 118 V3
  refine pm_if_ne (tgt := 21) hC ⟨by omega, by omega⟩ dX6_readNumbers_16 (by decide) (fun c20 => ?_) (fun c20 => ?_)
  · skip
    replace hT := hT.trans (if_pos c20)
    refine pm_aload_n hC 0 (by decide) dX6_readNumbers_21 rfl ?_
    refine pm_aload_n hC 0 (by decide) dX6_readNumbers_22 rfl ?_
    refine pm_getf (v := 3) hC 69 fl_X6_9 rfl rfl (by decide) rfl e10 dX6_readNumbers_23 ?_
    refine pm_getf (v := y11) hC 3 fl_X6_108 rfl rfl (by decide) rfl e12 dX6_readNumbers_26 ?_
    refine pm_l2i hC dX6_readNumbers_29 ?_
    refine pm_putf hC 69 fl_X6_31 rfl rfl rfl (by decide) rfl trivial dX6_readNumbers_30 ?_
    refine pm_aload_n hC 0 (by decide) dX6_readNumbers_33 rfl ?_
    refine pm_getf (v := 3) hC 69 fl_X6_9 rfl rfl (by decide) rfl e10 dX6_readNumbers_34 ?_
    refine pm_callV (ci := 9) (as := []) (st := []) hC 3 fC_X9_step lm_X6_98 li_X9_step (by decide) (by decide) rfl rfl rfl (by decide) rfl rfl (Nat.le_of_ble_eq_true rfl) ⟨Nat.le_refl _, Or.inl rfl⟩ dX6_readNumbers_37 ⟨rfl, (hV5.put 69 5 (x := y11) (lo := (-2147483648)) (hi := 2147483647) rfl ⟨by omega, by omega⟩)⟩ (fun r21 V22 hp23 => ?_)
    obtain ⟨rfl, hV24, hF25, hE26⟩ := hp23
    replace hT := hT.trans (pf_call_eq hE26)
    change pm_J X 40 [(0, (3, 69)), (1, (0, a1)), (2, (0, a2)), (3, (0, a3)), (4, (0, a4))] [] 118 V22
    have hF27 := pm_fr.tr (hF8.up 69 5 y11 rfl) hF25 (by decide)
    have e28 : V22 69 3 = 45 := by rw [hF25 69 (by decide)]; exact e9
    have e29 : V22 69 0 = 3 := by rw [hF25 69 (by decide)]; exact e10
    have e30 : V22 69 5 = y11 := by rw [hF25 69 (by decide)]; rfl
    refine pm_aload_n hC 0 (by decide) dX6_readNumbers_40 rfl ?_
    refine pm_getf (v := 3) hC 69 fl_X6_9 rfl rfl (by decide) rfl e29 dX6_readNumbers_41 ?_
    refine pm_iload_n hC 3 dX6_readNumbers_44 rfl ?_
    refine pm_iload hC 4 dX6_readNumbers_45 rfl ?_
    obtain ⟨y31, e32⟩ : ∃ y, V22 3 3 = y := ⟨_, rfl⟩
    have b33 := hV24.get 3 3 (lo := (-9223372036854775808)) (hi := 9223372036854775807) (by decide) (by decide) rfl
    rw [e32] at b33
    replace hT := hT.trans (pf_let_eq e32)
    refine pm_callV (ci := 9) (as := [(0, a3), (0, a4)]) (st := []) hC 3 (fC_X9_isNumber a3 a4 ⟨by omega, by omega⟩ ⟨by omega, by omega⟩) lm_X6_112 li_X9_isNumber (by decide) (by decide) rfl rfl rfl (by decide) rfl rfl (Nat.le_of_ble_eq_true rfl) ⟨Nat.le_refl _, Or.inl rfl⟩ dX6_readNumbers_47 ⟨rfl, hV24⟩ (fun r34 V35 hp36 => ?_)
    obtain ⟨y37, rfl, b38, rfl, hE39⟩ := hp36
    replace hT := hT.trans (pf_call_eq hE39)
    change pm_J X 50 [(0, (3, 69)), (1, (0, a1)), (2, (0, a2)), (3, (0, a3)), (4, (0, a4))] [(0, y37)] 118 V22
    refine pm_if_ne (tgt := 55) hC ⟨by omega, by omega⟩ dX6_readNumbers_50 (by decide) (fun c40 => ?_) (fun c40 => ?_)
    · skip
      replace hT := hT.trans (if_pos c40)
      refine pm_aload_n hC 0 (by decide) dX6_readNumbers_55 rfl ?_
      refine pm_aload_n hC 0 (by decide) dX6_readNumbers_56 rfl ?_
      refine pm_getf (v := 3) hC 69 fl_X6_9 rfl rfl (by decide) rfl e29 dX6_readNumbers_57 ?_
      refine pm_getf (v := y31) hC 3 fl_X6_108 rfl rfl (by decide) rfl e32 dX6_readNumbers_60 ?_
      refine pm_l2i hC dX6_readNumbers_63 ?_
      refine pm_putf hC 69 fl_X6_35 rfl rfl rfl (by decide) rfl trivial dX6_readNumbers_64 ?_
      refine pm_aload_n hC 0 (by decide) dX6_readNumbers_67 rfl ?_
      refine pm_getf (v := 3) hC 69 fl_X6_9 rfl rfl (by decide) rfl e29 dX6_readNumbers_68 ?_
      refine pm_callV (ci := 9) (as := []) (st := []) hC 3 fC_X9_step lm_X6_98 li_X9_step (by decide) (by decide) rfl rfl rfl (by decide) rfl rfl (Nat.le_of_ble_eq_true rfl) ⟨Nat.le_refl _, Or.inl rfl⟩ dX6_readNumbers_71 ⟨rfl, (hV24.put 69 6 (x := y31) (lo := (-2147483648)) (hi := 2147483647) rfl ⟨by omega, by omega⟩)⟩ (fun r41 V42 hp43 => ?_)
      obtain ⟨rfl, hV44, hF45, hE46⟩ := hp43
      replace hT := hT.trans (pf_call_eq hE46)
      change pm_J X 74 [(0, (3, 69)), (1, (0, a1)), (2, (0, a2)), (3, (0, a3)), (4, (0, a4))] [] 118 V42
      have hF47 := pm_fr.tr (hF27.up 69 6 y31 rfl) hF45 (by decide)
      have e48 : V42 69 3 = 45 := by rw [hF45 69 (by decide)]; exact e28
      have e49 : V42 69 0 = 3 := by rw [hF45 69 (by decide)]; exact e29
      have e50 : V42 69 5 = y11 := by rw [hF45 69 (by decide)]; exact e30
      have e51 : V42 69 6 = y31 := by rw [hF45 69 (by decide)]; rfl
      refine pm_iconst (v := 1) hC dX6_readNumbers_74 ?_
      have q52 : 45 ≤ V42 69 3 ∧ V42 69 3 ≤ 45 := by (have e : V42 69 3 = 45 := e48); rw [e]; exact ⟨by decide, by decide⟩
      exact pm_iret hC hR (pm_narZ (by omega)) ⟨1, rfl, ⟨by omega, by omega, by omega⟩, hV44, hF47, q52, hT⟩ dX6_readNumbers_75
    · skip
      replace hT := hT.trans (if_neg (fun q => q c40))
      refine pm_iconst (v := 0) hC dX6_readNumbers_53 ?_
      have q53 : 45 ≤ V22 69 3 ∧ V22 69 3 ≤ 45 := by (have e : V22 69 3 = 45 := e28); rw [e]; exact ⟨by decide, by decide⟩
      exact pm_iret hC hR (pm_narZ (by omega)) ⟨0, rfl, ⟨by omega, by omega, by omega⟩, hV24, hF27, q53, hT⟩ dX6_readNumbers_54
  · skip
    replace hT := hT.trans (if_neg (fun q => q c20))
    refine pm_iconst (v := 0) hC dX6_readNumbers_19 ?_
    have q54 : 45 ≤ V3 69 3 ∧ V3 69 3 ≤ 45 := by (have e : V3 69 3 = 45 := e9); rw [e]; exact ⟨by decide, by decide⟩
    exact pm_iret hC hR (pm_narZ (by omega)) ⟨0, rfl, ⟨by omega, by omega, by omega⟩, hV5, hF8, q54, hT⟩ dX6_readNumbers_20
set_option maxHeartbeats 4000000 in
set_option maxRecDepth 100000 in
theorem fC_X6_readOdds_45  : pm_K 4 yX6_readOdds cX6_readOdds 1 (some .boolean) (fun av V => av = [(3, 69)] ∧ pm_ok 0 90 V ∧ (45 ≤ V 69 3 ∧ V 69 3 ≤ 45)) (fun _ V r V' => ∃ y, r = some (0, y) ∧ (0 ≤ y ∧ y ≤ 1) ∧ pm_ok 0 90 V' ∧ pm_fr [3, 45, 69] V V' ∧ (45 ≤ V' 69 3 ∧ V' 69 3 ≤ 45) ∧ F_X6_readOdds 45 V = (y, V')) := by
  refine pm_MT.of (by decide) ⟨Nat.le_refl _, by decide⟩ (fun av V h => by rw [h.1]; exact (by decide : pm_words [(3, 0)] ≤ 1)) ?_
  rintro X av V0 hC - hR ⟨rfl, hV0, hq0⟩
  change pm_J X 0 [(0, (3, 69))] [] 118 V0
  have hT := F_X6_readOdds_eq 45 V0
  obtain ⟨z0, ez0⟩ : ∃ z, V0 69 3 = z := ⟨_, rfl⟩
  rw [ez0] at hq0
  have en0 : V0 69 3 = 45 := by rw [ez0]; omega
  refine pm_aload_n hC 0 (by decide) dX6_readOdds_0 rfl ?_
  obtain ⟨y1, e2⟩ : ∃ y, V0 69 4 = y := ⟨_, rfl⟩
  have b3 := hV0.get 69 4 (lo := 0) (hi := 1) (by decide) (by decide) rfl
  rw [e2] at b3
  replace hT := hT.trans (pf_let_eq e2)
  refine pm_getf (v := y1) hC 69 fl_X6_27 rfl rfl (by decide) rfl e2 dX6_readOdds_1 ?_
  refine pm_if_ne (tgt := 20) hC ⟨by omega, by omega⟩ dX6_readOdds_4 (by decide) (fun c4 => ?_) (fun c4 => ?_)
  · skip
    replace hT := hT.trans (if_pos c4)
    refine pm_iconst (v := 0) hC dX6_readOdds_20 ?_
    have q5 : 45 ≤ V0 69 3 ∧ V0 69 3 ≤ 45 := by (have e : V0 69 3 = 45 := en0); rw [e]; exact ⟨by decide, by decide⟩
    exact pm_iret hC hR (pm_narZ (by omega)) ⟨0, rfl, ⟨by omega, by omega⟩, hV0, (pm_fr.rf (ws := [3, 45, 69]) (V := V0)), q5, hT⟩ dX6_readOdds_21
  · skip
    replace hT := hT.trans (if_neg (fun q => q c4))
    refine pm_aload_n hC 0 (by decide) dX6_readOdds_7 rfl ?_
    refine pm_iconst (v := 0) hC dX6_readOdds_8 ?_
    refine pm_bipush (v := 16) hC dX6_readOdds_9 (by decide) ?_
    refine pm_iconst (v := 1) hC dX6_readOdds_11 ?_
    refine pm_bipush (v := 99) hC dX6_readOdds_12 (by decide) ?_
    have q9 : 45 ≤ V0 69 3 ∧ V0 69 3 ≤ 45 := by (have e : V0 69 3 = 45 := en0); rw [e]; exact ⟨by decide, by decide⟩
    refine pm_callV (ci := 6) (as := [(0, 0), (0, 16), (0, 1), (0, 99)]) (st := []) hC 69 (fC_X6_readNumbers_45 0 16 1 99 ⟨by decide, by decide⟩ ⟨by decide, by decide⟩ ⟨by decide, by decide⟩ ⟨by decide, by decide⟩) lm_X6_135 li_X6_readNumbers (by decide) (by decide) rfl rfl rfl (by decide) rfl rfl (Nat.le_of_ble_eq_true rfl) ⟨Nat.le_refl _, Or.inl rfl⟩ dX6_readOdds_14 ⟨rfl, hV0, q9⟩ (fun r6 V7 hp8 => ?_)
    obtain ⟨y10, rfl, b11, hV12, hF13, hq14, hE15⟩ := hp8
    replace hT := hT.trans (pf_call_eq hE15)
    change pm_J X 17 [(0, (3, 69))] [(0, y10)] 118 V7
    have hF16 := pm_fr.tr (pm_fr.rf (ws := [3, 45, 69]) (V := V0)) hF13 (by decide)
    obtain ⟨z17, ez18⟩ : ∃ z, V7 69 3 = z := ⟨_, rfl⟩
    rw [ez18] at hq14
    have ez18n : V7 69 3 = 45 := by rw [ez18]; omega
    obtain ⟨y19, e20⟩ : ∃ y, V7 69 5 = y := ⟨_, rfl⟩
    have b21 := hV12.get 69 5 (lo := (-2147483648)) (hi := 2147483647) (by decide) (by decide) rfl
    rw [e20] at b21
    replace hT := hT.trans (pf_let_eq e20)
    obtain ⟨y22, e23⟩ : ∃ y, V7 69 6 = y := ⟨_, rfl⟩
    have b24 := hV12.get 69 6 (lo := (-2147483648)) (hi := 2147483647) (by decide) (by decide) rfl
    rw [e23] at b24
    replace hT := hT.trans (pf_let_eq e23)
    refine pm_if_ne (tgt := 22) hC ⟨by omega, by omega⟩ dX6_readOdds_17 (by decide) (fun c25 => ?_) (fun c25 => ?_)
    · skip
      replace hT := hT.trans (if_pos c25)
      refine pm_aload_n hC 0 (by decide) dX6_readOdds_22 rfl ?_
      refine pm_iconst (v := 1) hC dX6_readOdds_23 ?_
      refine pm_putf hC 69 fl_X6_27 rfl rfl rfl (by decide) rfl (by show _ = (0 : Int) ∨ _ = (1 : Int); omega) dX6_readOdds_24 ?_
      refine pm_aload_n hC 0 (by decide) dX6_readOdds_27 rfl ?_
      refine pm_getf (v := 45) hC 69 fl_X6_23 rfl rfl (by decide) rfl ez18n dX6_readOdds_28 ?_
      refine pm_aload_n hC 0 (by decide) dX6_readOdds_31 rfl ?_
      refine pm_getf (v := y19) hC 69 fl_X6_31 rfl rfl (by decide) rfl e20 dX6_readOdds_32 ?_
      refine pm_putf hC 45 fl_X6_148 rfl rfl rfl (by decide) rfl trivial dX6_readOdds_35 ?_
      refine pm_aload_n hC 0 (by decide) dX6_readOdds_38 rfl ?_
      refine pm_getf (v := 45) hC 69 fl_X6_23 rfl rfl (by decide) rfl ez18n dX6_readOdds_39 ?_
      refine pm_aload_n hC 0 (by decide) dX6_readOdds_42 rfl ?_
      refine pm_getf (v := y22) hC 69 fl_X6_35 rfl rfl (by decide) rfl e23 dX6_readOdds_43 ?_
      refine pm_putf hC 45 fl_X6_151 rfl rfl rfl (by decide) rfl trivial dX6_readOdds_46 ?_
      refine pm_aload_n hC 0 (by decide) dX6_readOdds_49 rfl ?_
      have q29 : 45 ≤ (pm_up (pm_up (pm_up V7 69 4 1) 45 8 y19) 45 9 y22) 69 3 ∧ (pm_up (pm_up (pm_up V7 69 4 1) 45 8 y19) 45 9 y22) 69 3 ≤ 45 := by (have e : (pm_up (pm_up (pm_up V7 69 4 1) 45 8 y19) 45 9 y22) 69 3 = 45 := ez18n); rw [e]; exact ⟨by decide, by decide⟩
      refine pm_callV (ci := 6) (as := []) (st := []) hC 69 fC_X6_closes_45 lm_X6_129 li_X6_closes (by decide) (by decide) rfl rfl rfl (by decide) rfl rfl (Nat.le_of_ble_eq_true rfl) ⟨Nat.le_refl _, Or.inl rfl⟩ dX6_readOdds_50 ⟨rfl, (((hV12.put 69 4 (x := 1) (lo := 0) (hi := 1) rfl ⟨by decide, by decide⟩).put 45 8 (x := y19) (lo := 0) (hi := 16) rfl ⟨by omega, by omega⟩).put 45 9 (x := y22) (lo := 0) (hi := 99) rfl ⟨by omega, by omega⟩), q29⟩ (fun r26 V27 hp28 => ?_)
      obtain ⟨y30, rfl, b31, hV32, hF33, hE34⟩ := hp28
      replace hT := hT.trans (pf_call_eq hE34)
      change pm_J X 53 [(0, (3, 69))] [(0, y30)] 118 V27
      have hF35 := pm_fr.tr (((hF16.up 69 4 1 rfl).up 45 8 y19 rfl).up 45 9 y22 rfl) hF33 (by decide)
      have e36 : V27 69 3 = 45 := by rw [hF33 69 (by decide)]; exact ez18n
      have e37 : V27 69 5 = y19 := by rw [hF33 69 (by decide)]; exact e20
      have e38 : V27 69 6 = y22 := by rw [hF33 69 (by decide)]; exact e23
      have e39 : V27 69 4 = 1 := by rw [hF33 69 (by decide)]; rfl
      have e40 : V27 45 8 = y19 := by rw [hF33 45 (by decide)]; rfl
      have e41 : V27 45 9 = y22 := by rw [hF33 45 (by decide)]; rfl
      have q42 : 45 ≤ V27 69 3 ∧ V27 69 3 ≤ 45 := by (have e : V27 69 3 = 45 := e36); rw [e]; exact ⟨by decide, by decide⟩
      exact pm_iret hC hR (pm_narZ (by omega)) ⟨y30, rfl, ⟨by omega, by omega⟩, hV32, hF35, q42, hT⟩ dX6_readOdds_53
    · skip
      replace hT := hT.trans (if_neg (fun q => q c25))
      refine pm_iconst (v := 0) hC dX6_readOdds_20 ?_
      have q43 : 45 ≤ V7 69 3 ∧ V7 69 3 ≤ 45 := by (have e : V7 69 3 = 45 := ez18n); rw [e]; exact ⟨by decide, by decide⟩
      exact pm_iret hC hR (pm_narZ (by omega)) ⟨0, rfl, ⟨by omega, by omega⟩, hV12, hF16, q43, hT⟩ dX6_readOdds_21
set_option maxHeartbeats 4000000 in
set_option maxRecDepth 100000 in
theorem fC_X6_readFace_45  : pm_K 4 yX6_readFace cX6_readFace 1 (some .boolean) (fun av V => av = [(3, 69)] ∧ pm_ok 0 90 V ∧ (45 ≤ V 69 3 ∧ V 69 3 ≤ 45)) (fun _ V r V' => ∃ y, r = some (0, y) ∧ (0 ≤ y ∧ y ≤ 1) ∧ pm_ok 0 90 V' ∧ pm_fr [3, 45, 69] V V' ∧ (45 ≤ V' 69 3 ∧ V' 69 3 ≤ 45) ∧ F_X6_readFace 45 V = (y, V')) := by
  refine pm_MT.of (by decide) ⟨Nat.le_refl _, by decide⟩ (fun av V h => by rw [h.1]; exact (by decide : pm_words [(3, 0)] ≤ 1)) ?_
  rintro X av V0 hC - hR ⟨rfl, hV0, hq0⟩
  change pm_J X 0 [(0, (3, 69))] [] 118 V0
  have hT := F_X6_readFace_eq 45 V0
  obtain ⟨z0, ez0⟩ : ∃ z, V0 69 3 = z := ⟨_, rfl⟩
  rw [ez0] at hq0
  have en0 : V0 69 3 = 45 := by rw [ez0]; omega
  refine pm_aload_n hC 0 (by decide) dX6_readFace_0 rfl ?_
  refine pm_getf (v := 45) hC 69 fl_X6_23 rfl rfl (by decide) rfl en0 dX6_readFace_1 ?_
  obtain ⟨y1, e2⟩ : ∃ y, V0 45 6 = y := ⟨_, rfl⟩
  have b3 := hV0.get 45 6 (lo := 0) (hi := 60) (by decide) (by decide) rfl
  rw [e2] at b3
  replace hT := hT.trans (pf_let_eq e2)
  refine pm_getf (v := y1) hC 45 fl_X6_142 rfl rfl (by decide) rfl e2 dX6_readFace_4 ?_
  refine pm_if_gt (tgt := 23) hC ⟨by omega, by omega⟩ dX6_readFace_7 (by decide) (fun c4 => ?_) (fun c4 => ?_)
  · skip
    replace hT := hT.trans (if_pos c4)
    refine pm_iconst (v := 0) hC dX6_readFace_23 ?_
    have q5 : 45 ≤ V0 69 3 ∧ V0 69 3 ≤ 45 := by (have e : V0 69 3 = 45 := en0); rw [e]; exact ⟨by decide, by decide⟩
    exact pm_iret hC hR (pm_narZ (by omega)) ⟨0, rfl, ⟨by omega, by omega⟩, hV0, (pm_fr.rf (ws := [3, 45, 69]) (V := V0)), q5, hT⟩ dX6_readFace_24
  · skip
    replace hT := hT.trans (if_neg (Int.not_lt.mpr c4))
    refine pm_aload_n hC 0 (by decide) dX6_readFace_10 rfl ?_
    refine pm_iconst (v := 1) hC dX6_readFace_11 ?_
    refine pm_bipush (v := 60) hC dX6_readFace_12 (by decide) ?_
    refine pm_iconst (v := 0) hC dX6_readFace_14 ?_
    refine pm_bipush (v := 9) hC dX6_readFace_15 (by decide) ?_
    have q9 : 45 ≤ V0 69 3 ∧ V0 69 3 ≤ 45 := by (have e : V0 69 3 = 45 := en0); rw [e]; exact ⟨by decide, by decide⟩
    refine pm_callV (ci := 6) (as := [(0, 1), (0, 60), (0, 0), (0, 9)]) (st := []) hC 69 (fC_X6_readNumbers_45 1 60 0 9 ⟨by decide, by decide⟩ ⟨by decide, by decide⟩ ⟨by decide, by decide⟩ ⟨by decide, by decide⟩) lm_X6_135 li_X6_readNumbers (by decide) (by decide) rfl rfl rfl (by decide) rfl rfl (Nat.le_of_ble_eq_true rfl) ⟨Nat.le_refl _, Or.inl rfl⟩ dX6_readFace_17 ⟨rfl, hV0, q9⟩ (fun r6 V7 hp8 => ?_)
    obtain ⟨y10, rfl, b11, hV12, hF13, hq14, hE15⟩ := hp8
    replace hT := hT.trans (pf_call_eq hE15)
    change pm_J X 20 [(0, (3, 69))] [(0, y10)] 118 V7
    have hF16 := pm_fr.tr (pm_fr.rf (ws := [3, 45, 69]) (V := V0)) hF13 (by decide)
    have e17 : V7 45 6 = y1 := by rw [hF13 45 (by decide)]; exact e2
    obtain ⟨z18, ez19⟩ : ∃ z, V7 69 3 = z := ⟨_, rfl⟩
    rw [ez19] at hq14
    have ez19n : V7 69 3 = 45 := by rw [ez19]; omega
    obtain ⟨y20, e21⟩ : ∃ y, V7 69 5 = y := ⟨_, rfl⟩
    have b22 := hV12.get 69 5 (lo := (-2147483648)) (hi := 2147483647) (by decide) (by decide) rfl
    rw [e21] at b22
    replace hT := hT.trans (pf_let_eq e21)
    obtain ⟨y23, e24⟩ : ∃ y, V7 69 6 = y := ⟨_, rfl⟩
    have b25 := hV12.get 69 6 (lo := (-2147483648)) (hi := 2147483647) (by decide) (by decide) rfl
    rw [e24] at b25
    replace hT := hT.trans (pf_let_eq e24)
    refine pm_if_ne (tgt := 25) hC ⟨by omega, by omega⟩ dX6_readFace_20 (by decide) (fun c26 => ?_) (fun c26 => ?_)
    · skip
      replace hT := hT.trans (if_pos c26)
      refine pm_aload_n hC 0 (by decide) dX6_readFace_25 rfl ?_
      refine pm_getf (v := 45) hC 69 fl_X6_23 rfl rfl (by decide) rfl ez19n dX6_readFace_26 ?_
      refine pm_aload_n hC 0 (by decide) dX6_readFace_29 rfl ?_
      refine pm_getf (v := y20) hC 69 fl_X6_31 rfl rfl (by decide) rfl e21 dX6_readFace_30 ?_
      refine pm_putf hC 45 fl_X6_142 rfl rfl rfl (by decide) rfl trivial dX6_readFace_33 ?_
      refine pm_aload_n hC 0 (by decide) dX6_readFace_36 rfl ?_
      refine pm_getf (v := 45) hC 69 fl_X6_23 rfl rfl (by decide) rfl ez19n dX6_readFace_37 ?_
      refine pm_aload_n hC 0 (by decide) dX6_readFace_40 rfl ?_
      refine pm_getf (v := y23) hC 69 fl_X6_35 rfl rfl (by decide) rfl e24 dX6_readFace_41 ?_
      refine pm_putf hC 45 fl_X6_145 rfl rfl rfl (by decide) rfl trivial dX6_readFace_44 ?_
      refine pm_aload_n hC 0 (by decide) dX6_readFace_47 rfl ?_
      have q30 : 45 ≤ (pm_up (pm_up V7 45 6 y20) 45 7 y23) 69 3 ∧ (pm_up (pm_up V7 45 6 y20) 45 7 y23) 69 3 ≤ 45 := by (have e : (pm_up (pm_up V7 45 6 y20) 45 7 y23) 69 3 = 45 := ez19n); rw [e]; exact ⟨by decide, by decide⟩
      refine pm_callV (ci := 6) (as := []) (st := []) hC 69 fC_X6_closes_45 lm_X6_129 li_X6_closes (by decide) (by decide) rfl rfl rfl (by decide) rfl rfl (Nat.le_of_ble_eq_true rfl) ⟨Nat.le_refl _, Or.inl rfl⟩ dX6_readFace_48 ⟨rfl, ((hV12.put 45 6 (x := y20) (lo := 0) (hi := 60) rfl ⟨by omega, by omega⟩).put 45 7 (x := y23) (lo := 0) (hi := 9) rfl ⟨by omega, by omega⟩), q30⟩ (fun r27 V28 hp29 => ?_)
      obtain ⟨y31, rfl, b32, hV33, hF34, hE35⟩ := hp29
      replace hT := hT.trans (pf_call_eq hE35)
      change pm_J X 51 [(0, (3, 69))] [(0, y31)] 118 V28
      have hF36 := pm_fr.tr ((hF16.up 45 6 y20 rfl).up 45 7 y23 rfl) hF34 (by decide)
      have e37 : V28 69 3 = 45 := by rw [hF34 69 (by decide)]; exact ez19n
      have e38 : V28 69 5 = y20 := by rw [hF34 69 (by decide)]; exact e21
      have e39 : V28 69 6 = y23 := by rw [hF34 69 (by decide)]; exact e24
      have e40 : V28 45 6 = y20 := by rw [hF34 45 (by decide)]; rfl
      have e41 : V28 45 7 = y23 := by rw [hF34 45 (by decide)]; rfl
      have q42 : 45 ≤ V28 69 3 ∧ V28 69 3 ≤ 45 := by (have e : V28 69 3 = 45 := e37); rw [e]; exact ⟨by decide, by decide⟩
      exact pm_iret hC hR (pm_narZ (by omega)) ⟨y31, rfl, ⟨by omega, by omega⟩, hV33, hF36, q42, hT⟩ dX6_readFace_51
    · skip
      replace hT := hT.trans (if_neg (fun q => q c26))
      refine pm_iconst (v := 0) hC dX6_readFace_23 ?_
      have q43 : 45 ≤ V7 69 3 ∧ V7 69 3 ≤ 45 := by (have e : V7 69 3 = 45 := ez19n); rw [e]; exact ⟨by decide, by decide⟩
      exact pm_iret hC hR (pm_narZ (by omega)) ⟨0, rfl, ⟨by omega, by omega⟩, hV12, hF16, q43, hT⟩ dX6_readFace_24
set_option maxHeartbeats 4000000 in
set_option maxRecDepth 100000 in
theorem fC_X6_readVoice_45  : pm_K 4 yX6_readVoice cX6_readVoice 1 (some .boolean) (fun av V => av = [(3, 69)] ∧ pm_ok 0 90 V ∧ (45 ≤ V 69 3 ∧ V 69 3 ≤ 45)) (fun _ V r V' => ∃ y, r = some (0, y) ∧ (0 ≤ y ∧ y ≤ 1) ∧ pm_ok 0 90 V' ∧ pm_fr [3, 45, 69] V V' ∧ (45 ≤ V' 69 3 ∧ V' 69 3 ≤ 45) ∧ F_X6_readVoice 45 V = (y, V')) := by
  refine pm_MT.of (by decide) ⟨Nat.le_refl _, by decide⟩ (fun av V h => by rw [h.1]; exact (by decide : pm_words [(3, 0)] ≤ 1)) ?_
  rintro X av V0 hC - hR ⟨rfl, hV0, hq0⟩
  change pm_J X 0 [(0, (3, 69))] [] 118 V0
  have hT := F_X6_readVoice_eq 45 V0
  obtain ⟨z0, ez0⟩ : ∃ z, V0 69 3 = z := ⟨_, rfl⟩
  rw [ez0] at hq0
  have en0 : V0 69 3 = 45 := by rw [ez0]; omega
  refine pm_aload_n hC 0 (by decide) dX6_readVoice_0 rfl ?_
  refine pm_getf (v := 45) hC 69 fl_X6_23 rfl rfl (by decide) rfl en0 dX6_readVoice_1 ?_
  obtain ⟨y1, e2⟩ : ∃ y, V0 45 4 = y := ⟨_, rfl⟩
  have b3 := hV0.get 45 4 (lo := 0) (hi := 60) (by decide) (by decide) rfl
  rw [e2] at b3
  replace hT := hT.trans (pf_let_eq e2)
  refine pm_getf (v := y1) hC 45 fl_X6_132 rfl rfl (by decide) rfl e2 dX6_readVoice_4 ?_
  refine pm_if_gt (tgt := 23) hC ⟨by omega, by omega⟩ dX6_readVoice_7 (by decide) (fun c4 => ?_) (fun c4 => ?_)
  · skip
    replace hT := hT.trans (if_pos c4)
    refine pm_iconst (v := 0) hC dX6_readVoice_23 ?_
    have q5 : 45 ≤ V0 69 3 ∧ V0 69 3 ≤ 45 := by (have e : V0 69 3 = 45 := en0); rw [e]; exact ⟨by decide, by decide⟩
    exact pm_iret hC hR (pm_narZ (by omega)) ⟨0, rfl, ⟨by omega, by omega⟩, hV0, (pm_fr.rf (ws := [3, 45, 69]) (V := V0)), q5, hT⟩ dX6_readVoice_24
  · skip
    replace hT := hT.trans (if_neg (Int.not_lt.mpr c4))
    refine pm_aload_n hC 0 (by decide) dX6_readVoice_10 rfl ?_
    refine pm_iconst (v := 1) hC dX6_readVoice_11 ?_
    refine pm_bipush (v := 60) hC dX6_readVoice_12 (by decide) ?_
    refine pm_iconst (v := 0) hC dX6_readVoice_14 ?_
    refine pm_bipush (v := 9) hC dX6_readVoice_15 (by decide) ?_
    have q9 : 45 ≤ V0 69 3 ∧ V0 69 3 ≤ 45 := by (have e : V0 69 3 = 45 := en0); rw [e]; exact ⟨by decide, by decide⟩
    refine pm_callV (ci := 6) (as := [(0, 1), (0, 60), (0, 0), (0, 9)]) (st := []) hC 69 (fC_X6_readNumbers_45 1 60 0 9 ⟨by decide, by decide⟩ ⟨by decide, by decide⟩ ⟨by decide, by decide⟩ ⟨by decide, by decide⟩) lm_X6_135 li_X6_readNumbers (by decide) (by decide) rfl rfl rfl (by decide) rfl rfl (Nat.le_of_ble_eq_true rfl) ⟨Nat.le_refl _, Or.inl rfl⟩ dX6_readVoice_17 ⟨rfl, hV0, q9⟩ (fun r6 V7 hp8 => ?_)
    obtain ⟨y10, rfl, b11, hV12, hF13, hq14, hE15⟩ := hp8
    replace hT := hT.trans (pf_call_eq hE15)
    change pm_J X 20 [(0, (3, 69))] [(0, y10)] 118 V7
    have hF16 := pm_fr.tr (pm_fr.rf (ws := [3, 45, 69]) (V := V0)) hF13 (by decide)
    have e17 : V7 45 4 = y1 := by rw [hF13 45 (by decide)]; exact e2
    obtain ⟨z18, ez19⟩ : ∃ z, V7 69 3 = z := ⟨_, rfl⟩
    rw [ez19] at hq14
    have ez19n : V7 69 3 = 45 := by rw [ez19]; omega
    obtain ⟨y20, e21⟩ : ∃ y, V7 69 5 = y := ⟨_, rfl⟩
    have b22 := hV12.get 69 5 (lo := (-2147483648)) (hi := 2147483647) (by decide) (by decide) rfl
    rw [e21] at b22
    replace hT := hT.trans (pf_let_eq e21)
    obtain ⟨y23, e24⟩ : ∃ y, V7 69 6 = y := ⟨_, rfl⟩
    have b25 := hV12.get 69 6 (lo := (-2147483648)) (hi := 2147483647) (by decide) (by decide) rfl
    rw [e24] at b25
    replace hT := hT.trans (pf_let_eq e24)
    refine pm_if_ne (tgt := 25) hC ⟨by omega, by omega⟩ dX6_readVoice_20 (by decide) (fun c26 => ?_) (fun c26 => ?_)
    · skip
      replace hT := hT.trans (if_pos c26)
      refine pm_aload_n hC 0 (by decide) dX6_readVoice_25 rfl ?_
      refine pm_getf (v := 45) hC 69 fl_X6_23 rfl rfl (by decide) rfl ez19n dX6_readVoice_26 ?_
      refine pm_aload_n hC 0 (by decide) dX6_readVoice_29 rfl ?_
      refine pm_getf (v := y20) hC 69 fl_X6_31 rfl rfl (by decide) rfl e21 dX6_readVoice_30 ?_
      refine pm_putf hC 45 fl_X6_132 rfl rfl rfl (by decide) rfl trivial dX6_readVoice_33 ?_
      refine pm_aload_n hC 0 (by decide) dX6_readVoice_36 rfl ?_
      refine pm_getf (v := 45) hC 69 fl_X6_23 rfl rfl (by decide) rfl ez19n dX6_readVoice_37 ?_
      refine pm_aload_n hC 0 (by decide) dX6_readVoice_40 rfl ?_
      refine pm_getf (v := y23) hC 69 fl_X6_35 rfl rfl (by decide) rfl e24 dX6_readVoice_41 ?_
      refine pm_putf hC 45 fl_X6_139 rfl rfl rfl (by decide) rfl trivial dX6_readVoice_44 ?_
      refine pm_aload_n hC 0 (by decide) dX6_readVoice_47 rfl ?_
      have q30 : 45 ≤ (pm_up (pm_up V7 45 4 y20) 45 5 y23) 69 3 ∧ (pm_up (pm_up V7 45 4 y20) 45 5 y23) 69 3 ≤ 45 := by (have e : (pm_up (pm_up V7 45 4 y20) 45 5 y23) 69 3 = 45 := ez19n); rw [e]; exact ⟨by decide, by decide⟩
      refine pm_callV (ci := 6) (as := []) (st := []) hC 69 fC_X6_closes_45 lm_X6_129 li_X6_closes (by decide) (by decide) rfl rfl rfl (by decide) rfl rfl (Nat.le_of_ble_eq_true rfl) ⟨Nat.le_refl _, Or.inl rfl⟩ dX6_readVoice_48 ⟨rfl, ((hV12.put 45 4 (x := y20) (lo := 0) (hi := 60) rfl ⟨by omega, by omega⟩).put 45 5 (x := y23) (lo := 0) (hi := 9) rfl ⟨by omega, by omega⟩), q30⟩ (fun r27 V28 hp29 => ?_)
      obtain ⟨y31, rfl, b32, hV33, hF34, hE35⟩ := hp29
      replace hT := hT.trans (pf_call_eq hE35)
      change pm_J X 51 [(0, (3, 69))] [(0, y31)] 118 V28
      have hF36 := pm_fr.tr ((hF16.up 45 4 y20 rfl).up 45 5 y23 rfl) hF34 (by decide)
      have e37 : V28 69 3 = 45 := by rw [hF34 69 (by decide)]; exact ez19n
      have e38 : V28 69 5 = y20 := by rw [hF34 69 (by decide)]; exact e21
      have e39 : V28 69 6 = y23 := by rw [hF34 69 (by decide)]; exact e24
      have e40 : V28 45 4 = y20 := by rw [hF34 45 (by decide)]; rfl
      have e41 : V28 45 5 = y23 := by rw [hF34 45 (by decide)]; rfl
      have q42 : 45 ≤ V28 69 3 ∧ V28 69 3 ≤ 45 := by (have e : V28 69 3 = 45 := e37); rw [e]; exact ⟨by decide, by decide⟩
      exact pm_iret hC hR (pm_narZ (by omega)) ⟨y31, rfl, ⟨by omega, by omega⟩, hV33, hF36, q42, hT⟩ dX6_readVoice_51
    · skip
      replace hT := hT.trans (if_neg (fun q => q c26))
      refine pm_iconst (v := 0) hC dX6_readVoice_23 ?_
      have q43 : 45 ≤ V7 69 3 ∧ V7 69 3 ≤ 45 := by (have e : V7 69 3 = 45 := ez19n); rw [e]; exact ⟨by decide, by decide⟩
      exact pm_iret hC hR (pm_narZ (by omega)) ⟨0, rfl, ⟨by omega, by omega⟩, hV12, hF16, q43, hT⟩ dX6_readVoice_24
set_option maxHeartbeats 4000000 in
set_option maxRecDepth 100000 in
theorem fC_X5_isTaken_45 (a1 a2 : Int) (h0 : 0 ≤ a1 ∧ a1 ≤ 99) (h1 : 0 ≤ a2 ∧ a2 ≤ 99) : pm_K 1 yX5_isTaken cX5_isTaken 4 (some .boolean) (fun av V => av = [(3, 45), (0, a1), (0, a2)] ∧ pm_ok 0 90 V) (fun _ V r V' => ∃ y, r = some (0, y) ∧ (0 ≤ y ∧ y ≤ 1) ∧ V = V' ∧ F_X5_isTaken 45 a1 a2 V = (y, V)) := by
  refine pm_MT.of (by decide) ⟨Nat.le_refl _, by decide⟩ (fun av V h => by rw [h.1]; exact (by decide : pm_words [(3, 0), (0, 0), (0, 0)] ≤ 4)) ?_
  rintro X av V0 hC - hR ⟨rfl, hV0⟩
  change pm_J X 0 [(0, (3, 45)), (1, (0, a1)), (2, (0, a2))] [] 118 V0
  have hT := F_X5_isTaken_eq 45 a1 a2 V0
  refine pm_iconst (v := 0) hC dX5_isTaken_0 ?_
  refine pm_istore_n (lv' := [(3, (0, 0)), (0, (3, 45)), (1, (0, a1)), (2, (0, a2))]) hC dX5_isTaken_1 (by decide) rfl ?_
  obtain ⟨B3, hB4, hT⟩ := pf_loop hT
  have L6 : ∀ (N8 : Nat) (x1 : Int), (0 ≤ x1 ∧ x1 ≤ 9) → F_X5_isTaken 45 a1 a2 V0 = pf_val ((0 : Int), V0) B3 x1 → (Int.toNat (9 - x1)) = N8 → pm_J X 2 [(0, (3, 45)), (1, (0, a1)), (2, (0, a2)), (3, (0, x1))] [] 118 V0 := by
    intro N8
    induction N8 using Nat.strongRecOn with
    | _ N8 ih9 =>
    intro x1 b2 hT hm7
    have hb5 := congrFun hB4 x1
    refine pm_iload_n hC 3 dX5_isTaken_2 rfl ?_
    refine pm_aload_n hC 0 (by decide) dX5_isTaken_3 rfl ?_
    obtain ⟨y10, e11⟩ : ∃ y, V0 45 0 = y := ⟨_, rfl⟩
    have b12 := hV0.get 45 0 (lo := 0) (hi := 9) (by decide) (by decide) rfl
    rw [e11] at b12
    replace hb5 := hb5.trans (pf_let_eq e11)
    refine pm_getf (v := y10) hC 45 fl_X5_27 rfl rfl (by decide) rfl e11 dX5_isTaken_4 ?_
    refine pm_icmp_ge (tgt := 38) hC ⟨by omega, by omega⟩ ⟨by omega, by omega⟩ dX5_isTaken_7 (by decide) (fun c13 => ?_) (fun c13 => ?_)
    · skip
      replace hb5 := hb5.trans (if_pos c13)
      refine pm_iconst (v := 0) hC dX5_isTaken_38 ?_
      have hT := hT.trans (pf_val_inr hb5)
      exact pm_iret hC hR (pm_narZ (by omega)) ⟨0, rfl, ⟨by omega, by omega⟩, rfl, hT⟩ dX5_isTaken_39
    · skip
      replace hb5 := hb5.trans (if_neg (Int.not_le.mpr c13))
      refine pm_aload_n hC 0 (by decide) dX5_isTaken_10 rfl ?_
      have e14 : V0 45 1 = 46 := hV0.one 45 1 (by decide) (by decide) rfl
      refine pm_getf (v := 46) hC 45 fl_X5_9 rfl rfl (by decide) rfl e14 dX5_isTaken_11 ?_
      refine pm_iload_n hC 3 dX5_isTaken_14 rfl ?_
      obtain ⟨y15, e16⟩ : ∃ y, V0 46 (x1 : Int).toNat = y := ⟨_, rfl⟩
      replace hb5 := hb5.trans (pf_let_eq e16)
      have b17 := hV0.get 46 (x1 : Int).toNat (lo := 0) (hi := 99) (by decide) (show _ < 9 by omega) rfl
      rw [e16] at b17
      refine pm_iaload (len := 9) (v := y15) hC 46 rfl rfl (by decide) ⟨by omega, by omega⟩ (by decide) e16 dX5_isTaken_15 ?_
      refine pm_iload_n hC 1 dX5_isTaken_16 rfl ?_
      refine pm_icmp_ne (tgt := 32) hC ⟨by omega, by omega⟩ ⟨by omega, by omega⟩ dX5_isTaken_17 (by decide) (fun c18 => ?_) (fun c18 => ?_)
      · skip
        replace hb5 := hb5.trans (if_pos c18)
        obtain ⟨x19, ei20⟩ : ∃ y : Int, x1 + 1 = y := ⟨_, rfl⟩
        replace hb5 := hb5.trans (pf_let_eq ei20)
        refine pm_iinc (y := x19) (lv' := [(3, (0, x19)), (0, (3, 45)), (1, (0, a1)), (2, (0, a2))]) hC 3 dX5_isTaken_32 (by decide) rfl ei20 rfl ?_
        refine pm_goto (tgt := 2) hC dX5_isTaken_35 (by decide) ?_
        refine pm_lvsub [1, 2, 3, 0] (lv' := [(0, (3, 45)), (1, (0, a1)), (2, (0, a2)), (3, (0, x19))]) rfl ?_
        exact ih9 _ (by omega) x19 ⟨by omega, by omega⟩ (hT.trans (pf_val_inl hb5)) rfl
      · skip
        replace hb5 := hb5.trans (if_neg (fun q => q c18))
        refine pm_aload_n hC 0 (by decide) dX5_isTaken_20 rfl ?_
        have e21 : V0 45 2 = 47 := hV0.one 45 2 (by decide) (by decide) rfl
        refine pm_getf (v := 47) hC 45 fl_X5_15 rfl rfl (by decide) rfl e21 dX5_isTaken_21 ?_
        refine pm_iload_n hC 3 dX5_isTaken_24 rfl ?_
        obtain ⟨y22, e23⟩ : ∃ y, V0 47 (x1 : Int).toNat = y := ⟨_, rfl⟩
        replace hb5 := hb5.trans (pf_let_eq e23)
        have b24 := hV0.get 47 (x1 : Int).toNat (lo := 0) (hi := 99) (by decide) (show _ < 9 by omega) rfl
        rw [e23] at b24
        refine pm_iaload (len := 9) (v := y22) hC 47 rfl rfl (by decide) ⟨by omega, by omega⟩ (by decide) e23 dX5_isTaken_25 ?_
        refine pm_iload_n hC 2 dX5_isTaken_26 rfl ?_
        refine pm_icmp_ne (tgt := 32) hC ⟨by omega, by omega⟩ ⟨by omega, by omega⟩ dX5_isTaken_27 (by decide) (fun c25 => ?_) (fun c25 => ?_)
        · skip
          replace hb5 := hb5.trans (if_pos c25)
          obtain ⟨x26, ei27⟩ : ∃ y : Int, x1 + 1 = y := ⟨_, rfl⟩
          replace hb5 := hb5.trans (pf_let_eq ei27)
          refine pm_iinc (y := x26) (lv' := [(3, (0, x26)), (0, (3, 45)), (1, (0, a1)), (2, (0, a2))]) hC 3 dX5_isTaken_32 (by decide) rfl ei27 rfl ?_
          refine pm_goto (tgt := 2) hC dX5_isTaken_35 (by decide) ?_
          refine pm_lvsub [1, 2, 3, 0] (lv' := [(0, (3, 45)), (1, (0, a1)), (2, (0, a2)), (3, (0, x26))]) rfl ?_
          exact ih9 _ (by omega) x26 ⟨by omega, by omega⟩ (hT.trans (pf_val_inl hb5)) rfl
        · skip
          replace hb5 := hb5.trans (if_neg (fun q => q c25))
          refine pm_iconst (v := 1) hC dX5_isTaken_30 ?_
          have hT := hT.trans (pf_val_inr hb5)
          exact pm_iret hC hR (pm_narZ (by omega)) ⟨1, rfl, ⟨by omega, by omega⟩, rfl, hT⟩ dX5_isTaken_31
  refine pm_lvsub [1, 2, 3, 0] (lv' := [(0, (3, 45)), (1, (0, a1)), (2, (0, a2)), (3, (0, 0))]) rfl ?_
  exact L6 _ 0 ⟨by decide, by decide⟩ hT rfl
set_option maxHeartbeats 4000000 in
set_option maxRecDepth 100000 in
theorem fC_X6_readSound_45  : pm_K 4 yX6_readSound cX6_readSound 3 (some .boolean) (fun av V => av = [(3, 69)] ∧ pm_ok 0 90 V ∧ (45 ≤ V 69 3 ∧ V 69 3 ≤ 45)) (fun _ V r V' => ∃ y, r = some (0, y) ∧ (0 ≤ y ∧ y ≤ 1) ∧ pm_ok 0 90 V' ∧ pm_fr [3, 45, 46, 47, 48, 70, 71] V V' ∧ F_X6_readSound 45 V = (y, V')) := by
  refine pm_MT.of (by decide) ⟨Nat.le_refl _, by decide⟩ (fun av V h => by rw [h.1]; exact (by decide : pm_words [(3, 0)] ≤ 3)) ?_
  rintro X av V0 hC - hR ⟨rfl, hV0, hq0⟩
  change pm_J X 0 [(0, (3, 69))] [] 118 V0
  have hT := F_X6_readSound_eq 45 V0
  obtain ⟨z0, ez0⟩ : ∃ z, V0 69 3 = z := ⟨_, rfl⟩
  rw [ez0] at hq0
  have en0 : V0 69 3 = 45 := by rw [ez0]; omega
  refine pm_aload_n hC 0 (by decide) dX6_readSound_0 rfl ?_
  refine pm_getf (v := 45) hC 69 fl_X6_23 rfl rfl (by decide) rfl en0 dX6_readSound_1 ?_
  obtain ⟨y1, e2⟩ : ∃ y, V0 45 0 = y := ⟨_, rfl⟩
  have b3 := hV0.get 45 0 (lo := 0) (hi := 9) (by decide) (by decide) rfl
  rw [e2] at b3
  replace hT := hT.trans (pf_let_eq e2)
  refine pm_getf (v := y1) hC 45 fl_X6_95 rfl rfl (by decide) rfl e2 dX6_readSound_4 ?_
  refine pm_istore_n (lv' := [(1, (0, y1)), (0, (3, 69))]) hC dX6_readSound_7 (by decide) rfl ?_
  refine pm_iload_n hC 0 dX6_readSound_8 rfl ?_
  refine pm_bipush (v := 9) hC dX6_readSound_9 (by decide) ?_
  refine pm_icmp_lt (tgt := 16) hC ⟨by omega, by omega⟩ ⟨by decide, by decide⟩ dX6_readSound_11 (by decide) (fun c4 => ?_) (fun c4 => ?_)
  · skip
    replace hT := hT.trans (if_pos c4)
    refine pm_aload_n hC 1 (by decide) dX6_readSound_16 rfl ?_
    have e5 : V0 69 0 = 3 := hV0.one 69 0 (by decide) (by decide) rfl
    refine pm_getf (v := 3) hC 69 fl_X6_9 rfl rfl (by decide) rfl e5 dX6_readSound_17 ?_
    refine pm_callV (ci := 9) (as := []) (st := []) hC 3 fC_X9_step lm_X6_98 li_X9_step (by decide) (by decide) rfl rfl rfl (by decide) rfl rfl (Nat.le_of_ble_eq_true rfl) ⟨Nat.le_refl _, Or.inl rfl⟩ dX6_readSound_20 ⟨rfl, hV0⟩ (fun r6 V7 hp8 => ?_)
    obtain ⟨rfl, hV9, hF10, hE11⟩ := hp8
    replace hT := hT.trans (pf_call_eq hE11)
    change pm_J X 23 [(1, (0, y1)), (0, (3, 69))] [] 118 V7
    have hF12 := pm_fr.tr (pm_fr.rf (ws := [3, 45, 46, 47, 48, 70, 71]) (V := V0)) hF10 (by decide)
    have e13 : V7 69 3 = 45 := by rw [hF10 69 (by decide)]; exact en0
    have e14 : V7 45 0 = y1 := by rw [hF10 45 (by decide)]; exact e2
    have e15 : V7 69 0 = 3 := by rw [hF10 69 (by decide)]; exact e5
    refine pm_aload_n hC 1 (by decide) dX6_readSound_23 rfl ?_
    refine pm_getf (v := 3) hC 69 fl_X6_9 rfl rfl (by decide) rfl e15 dX6_readSound_24 ?_
    refine pm_callV (ci := 9) (as := []) (st := []) hC 3 fC_X9_isName lm_X6_101 li_X9_isName (by decide) (by decide) rfl rfl rfl (by decide) rfl rfl (Nat.le_of_ble_eq_true rfl) ⟨Nat.le_refl _, Or.inl rfl⟩ dX6_readSound_27 ⟨rfl, hV9⟩ (fun r16 V17 hp18 => ?_)
    obtain ⟨y19, rfl, b20, rfl, hE21⟩ := hp18
    replace hT := hT.trans (pf_call_eq hE21)
    change pm_J X 30 [(1, (0, y1)), (0, (3, 69))] [(0, y19)] 118 V7
    refine pm_if_eq (tgt := 41) hC ⟨by omega, by omega⟩ dX6_readSound_30 (by decide) (fun c22 => ?_) (fun c22 => ?_)
    · skip
      replace hT := hT.trans (if_pos c22)
      refine pm_iconst (v := 0) hC dX6_readSound_41 ?_
      exact pm_iret hC hR (pm_narZ (by omega)) ⟨0, rfl, ⟨by omega, by omega⟩, hV9, hF12, hT⟩ dX6_readSound_42
    · skip
      replace hT := hT.trans (if_neg c22)
      refine pm_aload_n hC 1 (by decide) dX6_readSound_33 rfl ?_
      have q26 : 45 ≤ V7 69 3 ∧ V7 69 3 ≤ 45 := by (have e : V7 69 3 = 45 := e13); rw [e]; exact ⟨by decide, by decide⟩
      refine pm_callV (ci := 6) (as := []) (st := []) hC 69 fC_X6_findName_45 lm_X6_104 li_X6_findName (by decide) (by decide) rfl rfl rfl (by decide) rfl rfl (Nat.le_of_ble_eq_true rfl) ⟨Nat.le_refl _, Or.inl rfl⟩ dX6_readSound_34 ⟨rfl, hV9, q26⟩ (fun r23 V24 hp25 => ?_)
      obtain ⟨y27, rfl, b28, rfl, hE29⟩ := hp25
      replace hT := hT.trans (pf_call_eq hE29)
      change pm_J X 37 [(1, (0, y1)), (0, (3, 69))] [(0, y27)] 118 V7
      refine pm_iconst (v := (-1)) hC dX6_readSound_37 ?_
      refine pm_icmp_eq (tgt := 43) hC ⟨by omega, by omega⟩ ⟨by decide, by decide⟩ dX6_readSound_38 (by decide) (fun c30 => ?_) (fun c30 => ?_)
      · skip
        replace hT := hT.trans (if_pos c30)
        refine pm_aload_n hC 1 (by decide) dX6_readSound_43 rfl ?_
        have e31 : V7 69 1 = 70 := hV9.one 69 1 (by decide) (by decide) rfl
        refine pm_getf (v := 70) hC 69 fl_X6_15 rfl rfl (by decide) rfl e31 dX6_readSound_44 ?_
        refine pm_iload_n hC 0 dX6_readSound_47 rfl ?_
        refine pm_aload_n hC 1 (by decide) dX6_readSound_48 rfl ?_
        refine pm_getf (v := 3) hC 69 fl_X6_9 rfl rfl (by decide) rfl e15 dX6_readSound_49 ?_
        obtain ⟨y32, e33⟩ : ∃ y, V7 3 3 = y := ⟨_, rfl⟩
        have b34 := hV9.get 3 3 (lo := (-9223372036854775808)) (hi := 9223372036854775807) (by decide) (by decide) rfl
        rw [e33] at b34
        replace hT := hT.trans (pf_let_eq e33)
        refine pm_getf (v := y32) hC 3 fl_X6_108 rfl rfl (by decide) rfl e33 dX6_readSound_52 ?_
        refine pm_lastore (len := 9) hC 70 rfl rfl (by decide) ⟨by omega, by omega⟩ (by decide) dX6_readSound_55 ?_
        refine pm_aload_n hC 1 (by decide) dX6_readSound_56 rfl ?_
        refine pm_getf (v := 3) hC 69 fl_X6_9 rfl rfl (by decide) rfl e15 dX6_readSound_57 ?_
        refine pm_callV (ci := 9) (as := []) (st := []) hC 3 fC_X9_step lm_X6_98 li_X9_step (by decide) (by decide) rfl rfl rfl (by decide) rfl rfl (Nat.le_of_ble_eq_true rfl) ⟨Nat.le_refl _, Or.inl rfl⟩ dX6_readSound_60 ⟨rfl, (hV9.put 70 (y1 : Int).toNat (x := y32) (lo := (-9223372036854775808)) (hi := 9223372036854775807) rfl ⟨by omega, by omega⟩)⟩ (fun r35 V36 hp37 => ?_)
        obtain ⟨rfl, hV38, hF39, hE40⟩ := hp37
        replace hT := hT.trans (pf_call_eq hE40)
        change pm_J X 63 [(1, (0, y1)), (0, (3, 69))] [] 118 V36
        have hF41 := pm_fr.tr (hF12.up 70 (y1 : Int).toNat y32 rfl) hF39 (by decide)
        have e42 : V36 69 3 = 45 := by rw [hF39 69 (by decide)]; exact e13
        have e43 : V36 45 0 = y1 := by rw [hF39 45 (by decide)]; exact e14
        have e44 : V36 69 0 = 3 := by rw [hF39 69 (by decide)]; exact e15
        have e45 : V36 69 1 = 70 := by rw [hF39 69 (by decide)]; exact e31
        refine pm_aload_n hC 1 (by decide) dX6_readSound_63 rfl ?_
        refine pm_getf (v := 3) hC 69 fl_X6_9 rfl rfl (by decide) rfl e44 dX6_readSound_64 ?_
        refine pm_iconst (v := 0) hC dX6_readSound_67 ?_
        refine pm_bipush (v := 99) hC dX6_readSound_68 (by decide) ?_
        obtain ⟨y46, e47⟩ : ∃ y, V36 3 3 = y := ⟨_, rfl⟩
        have b48 := hV38.get 3 3 (lo := (-9223372036854775808)) (hi := 9223372036854775807) (by decide) (by decide) rfl
        rw [e47] at b48
        replace hT := hT.trans (pf_let_eq e47)
        refine pm_callV (ci := 9) (as := [(0, 0), (0, 99)]) (st := []) hC 3 (fC_X9_isNumber 0 99 ⟨by decide, by decide⟩ ⟨by decide, by decide⟩) lm_X6_112 li_X9_isNumber (by decide) (by decide) rfl rfl rfl (by decide) rfl rfl (Nat.le_of_ble_eq_true rfl) ⟨Nat.le_refl _, Or.inl rfl⟩ dX6_readSound_70 ⟨rfl, hV38⟩ (fun r49 V50 hp51 => ?_)
        obtain ⟨y52, rfl, b53, rfl, hE54⟩ := hp51
        replace hT := hT.trans (pf_call_eq hE54)
        change pm_J X 73 [(1, (0, y1)), (0, (3, 69))] [(0, y52)] 118 V36
        refine pm_if_ne (tgt := 78) hC ⟨by omega, by omega⟩ dX6_readSound_73 (by decide) (fun c55 => ?_) (fun c55 => ?_)
        · skip
          replace hT := hT.trans (if_pos c55)
          refine pm_aload_n hC 1 (by decide) dX6_readSound_78 rfl ?_
          refine pm_getf (v := 3) hC 69 fl_X6_9 rfl rfl (by decide) rfl e44 dX6_readSound_79 ?_
          refine pm_getf (v := y46) hC 3 fl_X6_108 rfl rfl (by decide) rfl e47 dX6_readSound_82 ?_
          refine pm_l2i hC dX6_readSound_85 ?_
          refine pm_istore_n (lv' := [(2, (0, y46)), (1, (0, y1)), (0, (3, 69))]) hC dX6_readSound_86 (by decide) rfl ?_
          refine pm_aload_n hC 2 (by decide) dX6_readSound_87 rfl ?_
          refine pm_getf (v := 3) hC 69 fl_X6_9 rfl rfl (by decide) rfl e44 dX6_readSound_88 ?_
          refine pm_callV (ci := 9) (as := []) (st := []) hC 3 fC_X9_step lm_X6_98 li_X9_step (by decide) (by decide) rfl rfl rfl (by decide) rfl rfl (Nat.le_of_ble_eq_true rfl) ⟨Nat.le_refl _, Or.inl rfl⟩ dX6_readSound_91 ⟨rfl, hV38⟩ (fun r56 V57 hp58 => ?_)
          obtain ⟨rfl, hV59, hF60, hE61⟩ := hp58
          replace hT := hT.trans (pf_call_eq hE61)
          change pm_J X 94 [(2, (0, y46)), (1, (0, y1)), (0, (3, 69))] [] 118 V57
          have hF62 := pm_fr.tr hF41 hF60 (by decide)
          have e63 : V57 69 3 = 45 := by rw [hF60 69 (by decide)]; exact e42
          have e64 : V57 45 0 = y1 := by rw [hF60 45 (by decide)]; exact e43
          have e65 : V57 69 0 = 3 := by rw [hF60 69 (by decide)]; exact e44
          have e66 : V57 69 1 = 70 := by rw [hF60 69 (by decide)]; exact e45
          refine pm_aload_n hC 2 (by decide) dX6_readSound_94 rfl ?_
          refine pm_getf (v := 3) hC 69 fl_X6_9 rfl rfl (by decide) rfl e65 dX6_readSound_95 ?_
          refine pm_iconst (v := 0) hC dX6_readSound_98 ?_
          refine pm_bipush (v := 99) hC dX6_readSound_99 (by decide) ?_
          obtain ⟨y67, e68⟩ : ∃ y, V57 3 3 = y := ⟨_, rfl⟩
          have b69 := hV59.get 3 3 (lo := (-9223372036854775808)) (hi := 9223372036854775807) (by decide) (by decide) rfl
          rw [e68] at b69
          replace hT := hT.trans (pf_let_eq e68)
          refine pm_callV (ci := 9) (as := [(0, 0), (0, 99)]) (st := []) hC 3 (fC_X9_isNumber 0 99 ⟨by decide, by decide⟩ ⟨by decide, by decide⟩) lm_X6_112 li_X9_isNumber (by decide) (by decide) rfl rfl rfl (by decide) rfl rfl (Nat.le_of_ble_eq_true rfl) ⟨Nat.le_refl _, Or.inl rfl⟩ dX6_readSound_101 ⟨rfl, hV59⟩ (fun r70 V71 hp72 => ?_)
          obtain ⟨y73, rfl, b74, rfl, hE75⟩ := hp72
          replace hT := hT.trans (pf_call_eq hE75)
          change pm_J X 104 [(2, (0, y46)), (1, (0, y1)), (0, (3, 69))] [(0, y73)] 118 V57
          refine pm_if_eq (tgt := 126) hC ⟨by omega, by omega⟩ dX6_readSound_104 (by decide) (fun c76 => ?_) (fun c76 => ?_)
          · skip
            replace hT := hT.trans (if_pos c76)
            refine pm_iconst (v := 0) hC dX6_readSound_126 ?_
            exact pm_iret hC hR (pm_narZ (by omega)) ⟨0, rfl, ⟨by omega, by omega⟩, hV59, hF62, hT⟩ dX6_readSound_127
          · skip
            replace hT := hT.trans (if_neg c76)
            refine pm_aload_n hC 2 (by decide) dX6_readSound_107 rfl ?_
            refine pm_getf (v := 45) hC 69 fl_X6_23 rfl rfl (by decide) rfl e63 dX6_readSound_108 ?_
            refine pm_iload_n hC 0 dX6_readSound_111 rfl ?_
            refine pm_aload_n hC 2 (by decide) dX6_readSound_112 rfl ?_
            refine pm_getf (v := 3) hC 69 fl_X6_9 rfl rfl (by decide) rfl e65 dX6_readSound_113 ?_
            refine pm_getf (v := y67) hC 3 fl_X6_108 rfl rfl (by decide) rfl e68 dX6_readSound_116 ?_
            refine pm_l2i hC dX6_readSound_119 ?_
            refine pm_callV (ci := 5) (as := [(0, y46), (0, y67)]) (st := []) hC 45 (fC_X5_isTaken_45 y46 y67 ⟨by omega, by omega⟩ ⟨by omega, by omega⟩) lm_X6_116 li_X5_isTaken (by decide) (by decide) rfl rfl rfl (by decide) rfl rfl (Nat.le_of_ble_eq_true rfl) ⟨Nat.le_refl _, Or.inl rfl⟩ dX6_readSound_120 ⟨rfl, hV59⟩ (fun r77 V78 hp79 => ?_)
            obtain ⟨y80, rfl, b81, rfl, hE82⟩ := hp79
            replace hT := hT.trans (pf_call_eq hE82)
            change pm_J X 123 [(2, (0, y46)), (1, (0, y1)), (0, (3, 69))] [(0, y80)] 118 V57
            refine pm_if_eq (tgt := 128) hC ⟨by omega, by omega⟩ dX6_readSound_123 (by decide) (fun c83 => ?_) (fun c83 => ?_)
            · skip
              replace hT := hT.trans (if_pos c83)
              refine pm_aload_n hC 2 (by decide) dX6_readSound_128 rfl ?_
              refine pm_getf (v := 45) hC 69 fl_X6_23 rfl rfl (by decide) rfl e63 dX6_readSound_129 ?_
              have e84 : V57 45 1 = 46 := hV59.one 45 1 (by decide) (by decide) rfl
              refine pm_getf (v := 46) hC 45 fl_X6_119 rfl rfl (by decide) rfl e84 dX6_readSound_132 ?_
              refine pm_iload_n hC 1 dX6_readSound_135 rfl ?_
              refine pm_iload_n hC 0 dX6_readSound_136 rfl ?_
              refine pm_iastore (len := 9) hC 46 rfl rfl (by decide) ⟨by omega, by omega⟩ (by decide) dX6_readSound_137 ?_
              refine pm_aload_n hC 2 (by decide) dX6_readSound_138 rfl ?_
              refine pm_getf (v := 45) hC 69 fl_X6_23 rfl rfl (by decide) rfl e63 dX6_readSound_139 ?_
              have e85 : V57 45 2 = 47 := hV59.one 45 2 (by decide) (by decide) rfl
              refine pm_getf (v := 47) hC 45 fl_X6_123 rfl rfl (by decide) rfl e85 dX6_readSound_142 ?_
              refine pm_iload_n hC 1 dX6_readSound_145 rfl ?_
              refine pm_aload_n hC 2 (by decide) dX6_readSound_146 rfl ?_
              refine pm_getf (v := 3) hC 69 fl_X6_9 rfl rfl (by decide) rfl e65 dX6_readSound_147 ?_
              refine pm_getf (v := y67) hC 3 fl_X6_108 rfl rfl (by decide) rfl e68 dX6_readSound_150 ?_
              refine pm_l2i hC dX6_readSound_153 ?_
              refine pm_iastore (len := 9) hC 47 rfl rfl (by decide) ⟨by omega, by omega⟩ (by decide) dX6_readSound_154 ?_
              refine pm_aload_n hC 2 (by decide) dX6_readSound_155 rfl ?_
              refine pm_getf (v := 45) hC 69 fl_X6_23 rfl rfl (by decide) rfl e63 dX6_readSound_156 ?_
              have e86 : V57 45 3 = 48 := hV59.one 45 3 (by decide) (by decide) rfl
              refine pm_getf (v := 48) hC 45 fl_X6_126 rfl rfl (by decide) rfl e86 dX6_readSound_159 ?_
              refine pm_iload_n hC 1 dX6_readSound_162 rfl ?_
              refine pm_iconst (v := 1) hC dX6_readSound_163 ?_
              refine pm_iastore (len := 9) hC 48 rfl rfl (by decide) ⟨by omega, by omega⟩ (by decide) dX6_readSound_164 ?_
              refine pm_aload_n hC 2 (by decide) dX6_readSound_165 rfl ?_
              have e87 : V57 69 2 = 71 := hV59.one 69 2 (by decide) (by decide) rfl
              refine pm_getf (v := 71) hC 69 fl_X6_19 rfl rfl (by decide) rfl e87 dX6_readSound_166 ?_
              refine pm_iload_n hC 1 dX6_readSound_169 rfl ?_
              refine pm_iconst (v := 0) hC dX6_readSound_170 ?_
              refine pm_zastore (len := 9) hC 71 rfl rfl (by decide) ⟨by omega, by omega⟩ (by decide) (by omega) dX6_readSound_171 ?_
              refine pm_aload_n hC 2 (by decide) dX6_readSound_172 rfl ?_
              refine pm_getf (v := 45) hC 69 fl_X6_23 rfl rfl (by decide) rfl e63 dX6_readSound_173 ?_
              refine pm_iload_n hC 1 dX6_readSound_176 rfl ?_
              refine pm_iconst (v := 1) hC dX6_readSound_177 ?_
              refine pm_iadd hC dX6_readSound_178 ?_
              refine pm_putf hC 45 fl_X6_95 rfl rfl rfl (by decide) rfl trivial dX6_readSound_179 ?_
              refine pm_aload_n hC 2 (by decide) dX6_readSound_182 rfl ?_
              refine pm_getf (v := 3) hC 69 fl_X6_9 rfl rfl (by decide) rfl e65 dX6_readSound_183 ?_
              refine pm_callV (ci := 9) (as := []) (st := []) hC 3 fC_X9_step lm_X6_98 li_X9_step (by decide) (by decide) rfl rfl rfl (by decide) rfl rfl (Nat.le_of_ble_eq_true rfl) ⟨Nat.le_refl _, Or.inl rfl⟩ dX6_readSound_186 ⟨rfl, (((((hV59.put 46 (y1 : Int).toNat (x := y46) (lo := 0) (hi := 99) rfl ⟨by omega, by omega⟩).put 47 (y1 : Int).toNat (x := y67) (lo := 0) (hi := 99) rfl ⟨by omega, by omega⟩).put 48 (y1 : Int).toNat (x := 1) (lo := 0) (hi := 9) rfl ⟨by decide, by decide⟩).put 71 (y1 : Int).toNat (x := 0) (lo := 0) (hi := 1) rfl ⟨by decide, by decide⟩).put 45 0 (x := (y1 + 1)) (lo := 0) (hi := 9) rfl ⟨by omega, by omega⟩)⟩ (fun r88 V89 hp90 => ?_)
              obtain ⟨rfl, hV91, hF92, hE93⟩ := hp90
              replace hT := hT.trans (pf_call_eq hE93)
              change pm_J X 189 [(2, (0, y46)), (1, (0, y1)), (0, (3, 69))] [] 118 V89
              have hF94 := pm_fr.tr (((((hF62.up 46 (y1 : Int).toNat y46 rfl).up 47 (y1 : Int).toNat y67 rfl).up 48 (y1 : Int).toNat 1 rfl).up 71 (y1 : Int).toNat 0 rfl).up 45 0 (y1 + 1) rfl) hF92 (by decide)
              have e95 : V89 69 3 = 45 := by rw [hF92 69 (by decide)]; exact e63
              have e96 : V89 69 0 = 3 := by rw [hF92 69 (by decide)]; exact e65
              have e97 : V89 69 1 = 70 := by rw [hF92 69 (by decide)]; exact e66
              have e98 : V89 45 1 = 46 := by rw [hF92 45 (by decide)]; exact e84
              have e99 : V89 45 2 = 47 := by rw [hF92 45 (by decide)]; exact e85
              have e100 : V89 45 3 = 48 := by rw [hF92 45 (by decide)]; exact e86
              have e101 : V89 69 2 = 71 := by rw [hF92 69 (by decide)]; exact e87
              have e102 : V89 45 0 = (y1 + 1) := by rw [hF92 45 (by decide)]; rfl
              refine pm_aload_n hC 2 (by decide) dX6_readSound_189 rfl ?_
              have q106 : 45 ≤ V89 69 3 ∧ V89 69 3 ≤ 45 := by (have e : V89 69 3 = 45 := e95); rw [e]; exact ⟨by decide, by decide⟩
              refine pm_callV (ci := 6) (as := []) (st := []) hC 69 fC_X6_closes_45 lm_X6_129 li_X6_closes (by decide) (by decide) rfl rfl rfl (by decide) rfl rfl (Nat.le_of_ble_eq_true rfl) ⟨Nat.le_refl _, Or.inl rfl⟩ dX6_readSound_190 ⟨rfl, hV91, q106⟩ (fun r103 V104 hp105 => ?_)
              obtain ⟨y107, rfl, b108, hV109, hF110, hE111⟩ := hp105
              replace hT := hT.trans (pf_call_eq hE111)
              change pm_J X 193 [(2, (0, y46)), (1, (0, y1)), (0, (3, 69))] [(0, y107)] 118 V104
              have hF112 := pm_fr.tr hF94 hF110 (by decide)
              have e113 : V104 69 3 = 45 := by rw [hF110 69 (by decide)]; exact e95
              have e114 : V104 69 0 = 3 := by rw [hF110 69 (by decide)]; exact e96
              have e115 : V104 69 1 = 70 := by rw [hF110 69 (by decide)]; exact e97
              have e116 : V104 45 1 = 46 := by rw [hF110 45 (by decide)]; exact e98
              have e117 : V104 45 2 = 47 := by rw [hF110 45 (by decide)]; exact e99
              have e118 : V104 45 3 = 48 := by rw [hF110 45 (by decide)]; exact e100
              have e119 : V104 69 2 = 71 := by rw [hF110 69 (by decide)]; exact e101
              have e120 : V104 45 0 = (y1 + 1) := by rw [hF110 45 (by decide)]; exact e102
              exact pm_iret hC hR (pm_narZ (by omega)) ⟨y107, rfl, ⟨by omega, by omega⟩, hV109, hF112, hT⟩ dX6_readSound_193
            · skip
              replace hT := hT.trans (if_neg c83)
              refine pm_iconst (v := 0) hC dX6_readSound_126 ?_
              exact pm_iret hC hR (pm_narZ (by omega)) ⟨0, rfl, ⟨by omega, by omega⟩, hV59, hF62, hT⟩ dX6_readSound_127
        · skip
          replace hT := hT.trans (if_neg (fun q => q c55))
          refine pm_iconst (v := 0) hC dX6_readSound_76 ?_
          exact pm_iret hC hR (pm_narZ (by omega)) ⟨0, rfl, ⟨by omega, by omega⟩, hV38, hF41, hT⟩ dX6_readSound_77
      · skip
        replace hT := hT.trans (if_neg c30)
        refine pm_iconst (v := 0) hC dX6_readSound_41 ?_
        exact pm_iret hC hR (pm_narZ (by omega)) ⟨0, rfl, ⟨by omega, by omega⟩, hV9, hF12, hT⟩ dX6_readSound_42
  · skip
    replace hT := hT.trans (if_neg (Int.not_lt.mpr c4))
    refine pm_iconst (v := 0) hC dX6_readSound_14 ?_
    exact pm_iret hC hR (pm_narZ (by omega)) ⟨0, rfl, ⟨by omega, by omega⟩, hV0, (pm_fr.rf (ws := [3, 45, 46, 47, 48, 70, 71]) (V := V0)), hT⟩ dX6_readSound_15
set_option maxHeartbeats 4000000 in
set_option maxRecDepth 100000 in
theorem fC_X6_readStatement_45  : pm_K 5 yX6_readStatement cX6_readStatement 1 (some .boolean) (fun av V => av = [(3, 69)] ∧ pm_ok 0 90 V ∧ (45 ≤ V 69 3 ∧ V 69 3 ≤ 45)) (fun _ V r V' => ∃ y, r = some (0, y) ∧ (0 ≤ y ∧ y ≤ 1) ∧ pm_ok 0 90 V' ∧ pm_fr [3, 45, 46, 47, 48, 49, 50, 69, 70, 71] V V' ∧ (45 ≤ V' 69 3 ∧ V' 69 3 ≤ 45) ∧ F_X6_readStatement 45 V = (y, V')) := by
  refine pm_MT.of (by decide) ⟨Nat.le_refl _, by decide⟩ (fun av V h => by rw [h.1]; exact (by decide : pm_words [(3, 0)] ≤ 1)) ?_
  rintro X av V0 hC - hR ⟨rfl, hV0, hq0⟩
  change pm_J X 0 [(0, (3, 69))] [] 118 V0
  have hT := F_X6_readStatement_eq 45 V0
  obtain ⟨z0, ez0⟩ : ∃ z, V0 69 3 = z := ⟨_, rfl⟩
  rw [ez0] at hq0
  have en0 : V0 69 3 = 45 := by rw [ez0]; omega
  refine pm_aload_n hC 0 (by decide) dX6_readStatement_0 rfl ?_
  have e1 : V0 69 0 = 3 := hV0.one 69 0 (by decide) (by decide) rfl
  refine pm_getf (v := 3) hC 69 fl_X6_9 rfl rfl (by decide) rfl e1 dX6_readStatement_1 ?_
  refine pm_ldc2 (v := 495791205988) hC 3005 dX6_readStatement_4 (by decide +kernel) ?_
  refine pm_callV (ci := 9) (as := [(1, 495791205988)]) (st := []) hC 3 (fC_X9_isWord 495791205988 ⟨by decide, by decide⟩) lm_X6_63 li_X9_isWord (by decide) (by decide) rfl rfl rfl (by decide) rfl rfl (Nat.le_of_ble_eq_true rfl) ⟨Nat.le_refl _, Or.inl rfl⟩ dX6_readStatement_7 ⟨rfl, hV0⟩ (fun r2 V3 hp4 => ?_)
  obtain ⟨y5, rfl, b6, rfl, hE7⟩ := hp4
  replace hT := hT.trans (pf_call_eq hE7)
  change pm_J X 10 [(0, (3, 69))] [(0, y5)] 118 V0
  refine pm_if_eq (tgt := 18) hC ⟨by omega, by omega⟩ dX6_readStatement_10 (by decide) (fun c8 => ?_) (fun c8 => ?_)
  · skip
    replace hT := hT.trans (if_pos c8)
    refine pm_aload_n hC 0 (by decide) dX6_readStatement_18 rfl ?_
    refine pm_getf (v := 3) hC 69 fl_X6_9 rfl rfl (by decide) rfl e1 dX6_readStatement_19 ?_
    refine pm_ldc2 (v := 508675318629) hC 3045 dX6_readStatement_22 (by decide +kernel) ?_
    refine pm_callV (ci := 9) (as := [(1, 508675318629)]) (st := []) hC 3 (fC_X9_isWord 508675318629 ⟨by decide, by decide⟩) lm_X6_63 li_X9_isWord (by decide) (by decide) rfl rfl rfl (by decide) rfl rfl (Nat.le_of_ble_eq_true rfl) ⟨Nat.le_refl _, Or.inl rfl⟩ dX6_readStatement_25 ⟨rfl, hV0⟩ (fun r9 V10 hp11 => ?_)
    obtain ⟨y12, rfl, b13, rfl, hE14⟩ := hp11
    replace hT := hT.trans (pf_call_eq hE14)
    change pm_J X 28 [(0, (3, 69))] [(0, y12)] 118 V0
    refine pm_if_eq (tgt := 36) hC ⟨by omega, by omega⟩ dX6_readStatement_28 (by decide) (fun c15 => ?_) (fun c15 => ?_)
    · skip
      replace hT := hT.trans (if_pos c15)
      refine pm_aload_n hC 0 (by decide) dX6_readStatement_36 rfl ?_
      refine pm_getf (v := 3) hC 69 fl_X6_9 rfl rfl (by decide) rfl e1 dX6_readStatement_37 ?_
      refine pm_ldc2 (v := 1717658469) hC 3054 dX6_readStatement_40 (by decide +kernel) ?_
      refine pm_callV (ci := 9) (as := [(1, 1717658469)]) (st := []) hC 3 (fC_X9_isWord 1717658469 ⟨by decide, by decide⟩) lm_X6_63 li_X9_isWord (by decide) (by decide) rfl rfl rfl (by decide) rfl rfl (Nat.le_of_ble_eq_true rfl) ⟨Nat.le_refl _, Or.inl rfl⟩ dX6_readStatement_43 ⟨rfl, hV0⟩ (fun r16 V17 hp18 => ?_)
      obtain ⟨y19, rfl, b20, rfl, hE21⟩ := hp18
      replace hT := hT.trans (pf_call_eq hE21)
      change pm_J X 46 [(0, (3, 69))] [(0, y19)] 118 V0
      refine pm_if_eq (tgt := 54) hC ⟨by omega, by omega⟩ dX6_readStatement_46 (by decide) (fun c22 => ?_) (fun c22 => ?_)
      · skip
        replace hT := hT.trans (if_pos c22)
        refine pm_aload_n hC 0 (by decide) dX6_readStatement_54 rfl ?_
        refine pm_getf (v := 3) hC 69 fl_X6_9 rfl rfl (by decide) rfl e1 dX6_readStatement_55 ?_
        refine pm_ldc2 (v := 1868850291) hC 3059 dX6_readStatement_58 (by decide +kernel) ?_
        refine pm_callV (ci := 9) (as := [(1, 1868850291)]) (st := []) hC 3 (fC_X9_isWord 1868850291 ⟨by decide, by decide⟩) lm_X6_63 li_X9_isWord (by decide) (by decide) rfl rfl rfl (by decide) rfl rfl (Nat.le_of_ble_eq_true rfl) ⟨Nat.le_refl _, Or.inl rfl⟩ dX6_readStatement_61 ⟨rfl, hV0⟩ (fun r23 V24 hp25 => ?_)
        obtain ⟨y26, rfl, b27, rfl, hE28⟩ := hp25
        replace hT := hT.trans (pf_call_eq hE28)
        change pm_J X 64 [(0, (3, 69))] [(0, y26)] 118 V0
        refine pm_if_eq (tgt := 72) hC ⟨by omega, by omega⟩ dX6_readStatement_64 (by decide) (fun c29 => ?_) (fun c29 => ?_)
        · skip
          replace hT := hT.trans (if_pos c29)
          refine pm_aload_n hC 0 (by decide) dX6_readStatement_72 rfl ?_
          refine pm_getf (v := 3) hC 69 fl_X6_9 rfl rfl (by decide) rfl e1 dX6_readStatement_73 ?_
          refine pm_ldc2 (v := 1752132708) hC 3064 dX6_readStatement_76 (by decide +kernel) ?_
          refine pm_callV (ci := 9) (as := [(1, 1752132708)]) (st := []) hC 3 (fC_X9_isWord 1752132708 ⟨by decide, by decide⟩) lm_X6_63 li_X9_isWord (by decide) (by decide) rfl rfl rfl (by decide) rfl rfl (Nat.le_of_ble_eq_true rfl) ⟨Nat.le_refl _, Or.inl rfl⟩ dX6_readStatement_79 ⟨rfl, hV0⟩ (fun r30 V31 hp32 => ?_)
          obtain ⟨y33, rfl, b34, rfl, hE35⟩ := hp32
          replace hT := hT.trans (pf_call_eq hE35)
          change pm_J X 82 [(0, (3, 69))] [(0, y33)] 118 V0
          refine pm_if_eq (tgt := 90) hC ⟨by omega, by omega⟩ dX6_readStatement_82 (by decide) (fun c36 => ?_) (fun c36 => ?_)
          · skip
            replace hT := hT.trans (if_pos c36)
            refine pm_aload_n hC 0 (by decide) dX6_readStatement_90 rfl ?_
            refine pm_getf (v := 3) hC 69 fl_X6_9 rfl rfl (by decide) rfl e1 dX6_readStatement_91 ?_
            refine pm_ldc2 (v := 465557353070) hC 3069 dX6_readStatement_94 (by decide +kernel) ?_
            refine pm_callV (ci := 9) (as := [(1, 465557353070)]) (st := []) hC 3 (fC_X9_isWord 465557353070 ⟨by decide, by decide⟩) lm_X6_63 li_X9_isWord (by decide) (by decide) rfl rfl rfl (by decide) rfl rfl (Nat.le_of_ble_eq_true rfl) ⟨Nat.le_refl _, Or.inl rfl⟩ dX6_readStatement_97 ⟨rfl, hV0⟩ (fun r37 V38 hp39 => ?_)
            obtain ⟨y40, rfl, b41, rfl, hE42⟩ := hp39
            replace hT := hT.trans (pf_call_eq hE42)
            change pm_J X 100 [(0, (3, 69))] [(0, y40)] 118 V0
            refine pm_if_eq (tgt := 114) hC ⟨by omega, by omega⟩ dX6_readStatement_100 (by decide) (fun c43 => ?_) (fun c43 => ?_)
            · skip
              replace hT := hT.trans (if_pos c43)
              refine pm_iconst (v := 0) hC dX6_readStatement_114 ?_
              have q44 : 45 ≤ V0 69 3 ∧ V0 69 3 ≤ 45 := by (have e : V0 69 3 = 45 := en0); rw [e]; exact ⟨by decide, by decide⟩
              exact pm_iret hC hR (pm_narZ (by omega)) ⟨0, rfl, ⟨by omega, by omega⟩, hV0, (pm_fr.rf (ws := [3, 45, 46, 47, 48, 49, 50, 69, 70, 71]) (V := V0)), q44, hT⟩ dX6_readStatement_115
            · skip
              replace hT := hT.trans (if_neg c43)
              refine pm_aload_n hC 0 (by decide) dX6_readStatement_103 rfl ?_
              have q48 : 45 ≤ V0 69 3 ∧ V0 69 3 ≤ 45 := by (have e : V0 69 3 = 45 := en0); rw [e]; exact ⟨by decide, by decide⟩
              refine pm_callV (ci := 6) (as := []) (st := []) hC 69 fC_X6_readLearn_45 lm_X6_92 li_X6_readLearn (by decide) (by decide) rfl rfl rfl (by decide) rfl rfl (Nat.le_of_ble_eq_true rfl) ⟨Nat.le_refl _, Or.inl rfl⟩ dX6_readStatement_104 ⟨rfl, hV0, q48⟩ (fun r45 V46 hp47 => ?_)
              obtain ⟨y49, rfl, b50, hV51, hF52, hE53⟩ := hp47
              replace hT := hT.trans (pf_call_eq hE53)
              change pm_J X 107 [(0, (3, 69))] [(0, y49)] 118 V46
              have hF54 := pm_fr.tr (pm_fr.rf (ws := [3, 45, 46, 47, 48, 49, 50, 69, 70, 71]) (V := V0)) hF52 (by decide)
              have e55 : V46 69 3 = 45 := by rw [hF52 69 (by decide)]; exact en0
              have e56 : V46 69 0 = 3 := by rw [hF52 69 (by decide)]; exact e1
              refine pm_if_eq (tgt := 114) hC ⟨by omega, by omega⟩ dX6_readStatement_107 (by decide) (fun c57 => ?_) (fun c57 => ?_)
              · skip
                replace hT := hT.trans (if_pos c57)
                refine pm_iconst (v := 0) hC dX6_readStatement_114 ?_
                have q58 : 45 ≤ V46 69 3 ∧ V46 69 3 ≤ 45 := by (have e : V46 69 3 = 45 := e55); rw [e]; exact ⟨by decide, by decide⟩
                exact pm_iret hC hR (pm_narZ (by omega)) ⟨0, rfl, ⟨by omega, by omega⟩, hV51, hF54, q58, hT⟩ dX6_readStatement_115
              · skip
                replace hT := hT.trans (if_neg c57)
                refine pm_iconst (v := 1) hC dX6_readStatement_110 ?_
                refine pm_goto (tgt := 115) hC dX6_readStatement_111 (by decide) ?_
                have q59 : 45 ≤ V46 69 3 ∧ V46 69 3 ≤ 45 := by (have e : V46 69 3 = 45 := e55); rw [e]; exact ⟨by decide, by decide⟩
                exact pm_iret hC hR (pm_narZ (by omega)) ⟨1, rfl, ⟨by omega, by omega⟩, hV51, hF54, q59, hT⟩ dX6_readStatement_115
          · skip
            replace hT := hT.trans (if_neg c36)
            refine pm_aload_n hC 0 (by decide) dX6_readStatement_85 rfl ?_
            have q63 : 45 ≤ V0 69 3 ∧ V0 69 3 ≤ 45 := by (have e : V0 69 3 = 45 := en0); rw [e]; exact ⟨by decide, by decide⟩
            refine pm_callV (ci := 6) (as := []) (st := []) hC 69 fC_X6_readHold_45 lm_X6_87 li_X6_readHold (by decide) (by decide) rfl rfl rfl (by decide) rfl rfl (Nat.le_of_ble_eq_true rfl) ⟨Nat.le_refl _, Or.inl rfl⟩ dX6_readStatement_86 ⟨rfl, hV0, q63⟩ (fun r60 V61 hp62 => ?_)
            obtain ⟨y64, rfl, b65, hV66, hF67, hE68⟩ := hp62
            replace hT := hT.trans (pf_call_eq hE68)
            change pm_J X 89 [(0, (3, 69))] [(0, y64)] 118 V61
            have hF69 := pm_fr.tr (pm_fr.rf (ws := [3, 45, 46, 47, 48, 49, 50, 69, 70, 71]) (V := V0)) hF67 (by decide)
            have e70 : V61 69 3 = 45 := by rw [hF67 69 (by decide)]; exact en0
            have e71 : V61 69 0 = 3 := by rw [hF67 69 (by decide)]; exact e1
            have q72 : 45 ≤ V61 69 3 ∧ V61 69 3 ≤ 45 := by (have e : V61 69 3 = 45 := e70); rw [e]; exact ⟨by decide, by decide⟩
            exact pm_iret hC hR (pm_narZ (by omega)) ⟨y64, rfl, ⟨by omega, by omega⟩, hV66, hF69, q72, hT⟩ dX6_readStatement_89
        · skip
          replace hT := hT.trans (if_neg c29)
          refine pm_aload_n hC 0 (by decide) dX6_readStatement_67 rfl ?_
          have q76 : 45 ≤ V0 69 3 ∧ V0 69 3 ≤ 45 := by (have e : V0 69 3 = 45 := en0); rw [e]; exact ⟨by decide, by decide⟩
          refine pm_callV (ci := 6) (as := []) (st := []) hC 69 fC_X6_readOdds_45 lm_X6_82 li_X6_readOdds (by decide) (by decide) rfl rfl rfl (by decide) rfl rfl (Nat.le_of_ble_eq_true rfl) ⟨Nat.le_refl _, Or.inl rfl⟩ dX6_readStatement_68 ⟨rfl, hV0, q76⟩ (fun r73 V74 hp75 => ?_)
          obtain ⟨y77, rfl, b78, hV79, hF80, hq81, hE82⟩ := hp75
          replace hT := hT.trans (pf_call_eq hE82)
          change pm_J X 71 [(0, (3, 69))] [(0, y77)] 118 V74
          have hF83 := pm_fr.tr (pm_fr.rf (ws := [3, 45, 46, 47, 48, 49, 50, 69, 70, 71]) (V := V0)) hF80 (by decide)
          obtain ⟨z84, ez85⟩ : ∃ z, V74 69 3 = z := ⟨_, rfl⟩
          rw [ez85] at hq81
          have ez85n : V74 69 3 = 45 := by rw [ez85]; omega
          have q86 : 45 ≤ V74 69 3 ∧ V74 69 3 ≤ 45 := by (have e : V74 69 3 = 45 := ez85n); rw [e]; exact ⟨by decide, by decide⟩
          exact pm_iret hC hR (pm_narZ (by omega)) ⟨y77, rfl, ⟨by omega, by omega⟩, hV79, hF83, q86, hT⟩ dX6_readStatement_71
      · skip
        replace hT := hT.trans (if_neg c22)
        refine pm_aload_n hC 0 (by decide) dX6_readStatement_49 rfl ?_
        have q90 : 45 ≤ V0 69 3 ∧ V0 69 3 ≤ 45 := by (have e : V0 69 3 = 45 := en0); rw [e]; exact ⟨by decide, by decide⟩
        refine pm_callV (ci := 6) (as := []) (st := []) hC 69 fC_X6_readFace_45 lm_X6_77 li_X6_readFace (by decide) (by decide) rfl rfl rfl (by decide) rfl rfl (Nat.le_of_ble_eq_true rfl) ⟨Nat.le_refl _, Or.inl rfl⟩ dX6_readStatement_50 ⟨rfl, hV0, q90⟩ (fun r87 V88 hp89 => ?_)
        obtain ⟨y91, rfl, b92, hV93, hF94, hq95, hE96⟩ := hp89
        replace hT := hT.trans (pf_call_eq hE96)
        change pm_J X 53 [(0, (3, 69))] [(0, y91)] 118 V88
        have hF97 := pm_fr.tr (pm_fr.rf (ws := [3, 45, 46, 47, 48, 49, 50, 69, 70, 71]) (V := V0)) hF94 (by decide)
        obtain ⟨z98, ez99⟩ : ∃ z, V88 69 3 = z := ⟨_, rfl⟩
        rw [ez99] at hq95
        have ez99n : V88 69 3 = 45 := by rw [ez99]; omega
        have q100 : 45 ≤ V88 69 3 ∧ V88 69 3 ≤ 45 := by (have e : V88 69 3 = 45 := ez99n); rw [e]; exact ⟨by decide, by decide⟩
        exact pm_iret hC hR (pm_narZ (by omega)) ⟨y91, rfl, ⟨by omega, by omega⟩, hV93, hF97, q100, hT⟩ dX6_readStatement_53
    · skip
      replace hT := hT.trans (if_neg c15)
      refine pm_aload_n hC 0 (by decide) dX6_readStatement_31 rfl ?_
      have q104 : 45 ≤ V0 69 3 ∧ V0 69 3 ≤ 45 := by (have e : V0 69 3 = 45 := en0); rw [e]; exact ⟨by decide, by decide⟩
      refine pm_callV (ci := 6) (as := []) (st := []) hC 69 fC_X6_readVoice_45 lm_X6_72 li_X6_readVoice (by decide) (by decide) rfl rfl rfl (by decide) rfl rfl (Nat.le_of_ble_eq_true rfl) ⟨Nat.le_refl _, Or.inl rfl⟩ dX6_readStatement_32 ⟨rfl, hV0, q104⟩ (fun r101 V102 hp103 => ?_)
      obtain ⟨y105, rfl, b106, hV107, hF108, hq109, hE110⟩ := hp103
      replace hT := hT.trans (pf_call_eq hE110)
      change pm_J X 35 [(0, (3, 69))] [(0, y105)] 118 V102
      have hF111 := pm_fr.tr (pm_fr.rf (ws := [3, 45, 46, 47, 48, 49, 50, 69, 70, 71]) (V := V0)) hF108 (by decide)
      obtain ⟨z112, ez113⟩ : ∃ z, V102 69 3 = z := ⟨_, rfl⟩
      rw [ez113] at hq109
      have ez113n : V102 69 3 = 45 := by rw [ez113]; omega
      have q114 : 45 ≤ V102 69 3 ∧ V102 69 3 ≤ 45 := by (have e : V102 69 3 = 45 := ez113n); rw [e]; exact ⟨by decide, by decide⟩
      exact pm_iret hC hR (pm_narZ (by omega)) ⟨y105, rfl, ⟨by omega, by omega⟩, hV107, hF111, q114, hT⟩ dX6_readStatement_35
  · skip
    replace hT := hT.trans (if_neg c8)
    refine pm_aload_n hC 0 (by decide) dX6_readStatement_13 rfl ?_
    have q118 : 45 ≤ V0 69 3 ∧ V0 69 3 ≤ 45 := by (have e : V0 69 3 = 45 := en0); rw [e]; exact ⟨by decide, by decide⟩
    refine pm_callV (ci := 6) (as := []) (st := []) hC 69 fC_X6_readSound_45 lm_X6_67 li_X6_readSound (by decide) (by decide) rfl rfl rfl (by decide) rfl rfl (Nat.le_of_ble_eq_true rfl) ⟨Nat.le_refl _, Or.inl rfl⟩ dX6_readStatement_14 ⟨rfl, hV0, q118⟩ (fun r115 V116 hp117 => ?_)
    obtain ⟨y119, rfl, b120, hV121, hF122, hE123⟩ := hp117
    replace hT := hT.trans (pf_call_eq hE123)
    change pm_J X 17 [(0, (3, 69))] [(0, y119)] 118 V116
    have hF124 := pm_fr.tr (pm_fr.rf (ws := [3, 45, 46, 47, 48, 49, 50, 69, 70, 71]) (V := V0)) hF122 (by decide)
    have e125 : V116 69 3 = 45 := by rw [hF122 69 (by decide)]; exact en0
    have e126 : V116 69 0 = 3 := by rw [hF122 69 (by decide)]; exact e1
    have q127 : 45 ≤ V116 69 3 ∧ V116 69 3 ≤ 45 := by (have e : V116 69 3 = 45 := e125); rw [e]; exact ⟨by decide, by decide⟩
    exact pm_iret hC hR (pm_narZ (by omega)) ⟨y119, rfl, ⟨by omega, by omega⟩, hV121, hF124, q127, hT⟩ dX6_readStatement_17
set_option maxHeartbeats 4000000 in
set_option maxRecDepth 100000 in
theorem fC_X5_clear_45  : pm_K 1 yX5_clear cX5_clear 1 none (fun av V => av = [(3, 45)] ∧ pm_ok 0 90 V) (fun _ V r V' => r = none ∧ pm_ok 0 90 V' ∧ pm_fr [45] V V' ∧ F_X5_clear 45 V = (0, V')) := by
  refine pm_MT.of (by decide) ⟨Nat.le_refl _, by decide⟩ (fun av V h => by rw [h.1]; exact (by decide : pm_words [(3, 0)] ≤ 1)) ?_
  rintro X av V0 hC - hR ⟨rfl, hV0⟩
  change pm_J X 0 [(0, (3, 45))] [] 118 V0
  have hT := F_X5_clear_eq 45 V0
  refine pm_aload_n hC 0 (by decide) dX5_clear_0 rfl ?_
  refine pm_iconst (v := 0) hC dX5_clear_1 ?_
  refine pm_putf hC 45 fl_X5_27 rfl rfl rfl (by decide) rfl trivial dX5_clear_2 ?_
  refine pm_aload_n hC 0 (by decide) dX5_clear_5 rfl ?_
  refine pm_iconst (v := 0) hC dX5_clear_6 ?_
  refine pm_putf hC 45 fl_X5_31 rfl rfl rfl (by decide) rfl trivial dX5_clear_7 ?_
  refine pm_aload_n hC 0 (by decide) dX5_clear_10 rfl ?_
  refine pm_iconst (v := 0) hC dX5_clear_11 ?_
  refine pm_putf hC 45 fl_X5_34 rfl rfl rfl (by decide) rfl trivial dX5_clear_12 ?_
  refine pm_aload_n hC 0 (by decide) dX5_clear_15 rfl ?_
  refine pm_iconst (v := 0) hC dX5_clear_16 ?_
  refine pm_putf hC 45 fl_X5_37 rfl rfl rfl (by decide) rfl trivial dX5_clear_17 ?_
  refine pm_aload_n hC 0 (by decide) dX5_clear_20 rfl ?_
  refine pm_iconst (v := 0) hC dX5_clear_21 ?_
  refine pm_putf hC 45 fl_X5_40 rfl rfl rfl (by decide) rfl trivial dX5_clear_22 ?_
  refine pm_aload_n hC 0 (by decide) dX5_clear_25 rfl ?_
  refine pm_bipush (v := 16) hC dX5_clear_26 (by decide) ?_
  refine pm_putf hC 45 fl_X5_43 rfl rfl rfl (by decide) rfl trivial dX5_clear_28 ?_
  refine pm_aload_n hC 0 (by decide) dX5_clear_31 rfl ?_
  refine pm_bipush (v := 99) hC dX5_clear_32 (by decide) ?_
  refine pm_putf hC 45 fl_X5_46 rfl rfl rfl (by decide) rfl trivial dX5_clear_34 ?_
  refine pm_aload_n hC 0 (by decide) dX5_clear_37 rfl ?_
  refine pm_iconst (v := 0) hC dX5_clear_38 ?_
  refine pm_putf hC 45 fl_X5_49 rfl rfl rfl (by decide) rfl trivial dX5_clear_39 ?_
  exact pm_vret hC hR ⟨rfl, ((((((((hV0.put 45 0 (x := 0) (lo := 0) (hi := 9) rfl ⟨by decide, by decide⟩).put 45 4 (x := 0) (lo := 0) (hi := 60) rfl ⟨by decide, by decide⟩).put 45 5 (x := 0) (lo := 0) (hi := 9) rfl ⟨by decide, by decide⟩).put 45 6 (x := 0) (lo := 0) (hi := 60) rfl ⟨by decide, by decide⟩).put 45 7 (x := 0) (lo := 0) (hi := 9) rfl ⟨by decide, by decide⟩).put 45 8 (x := 16) (lo := 0) (hi := 16) rfl ⟨by decide, by decide⟩).put 45 9 (x := 99) (lo := 0) (hi := 99) rfl ⟨by decide, by decide⟩).put 45 10 (x := 0) (lo := 0) (hi := 12) rfl ⟨by decide, by decide⟩), (((((((((pm_fr.rf (ws := [45]) (V := V0)).up 45 0 0 rfl).up 45 4 0 rfl).up 45 5 0 rfl).up 45 6 0 rfl).up 45 7 0 rfl).up 45 8 16 rfl).up 45 9 99 rfl).up 45 10 0 rfl), hT⟩ dX5_clear_42
set_option maxHeartbeats 4000000 in
set_option maxRecDepth 100000 in
theorem fC_X5_isWhole_45  : pm_K 1 yX5_isWhole cX5_isWhole 1 (some .boolean) (fun av V => av = [(3, 45)] ∧ pm_ok 0 90 V) (fun _ V r V' => ∃ y, r = some (0, y) ∧ (0 ≤ y ∧ y ≤ 1) ∧ V = V' ∧ F_X5_isWhole 45 V = (y, V)) := by
  refine pm_MT.of (by decide) ⟨Nat.le_refl _, by decide⟩ (fun av V h => by rw [h.1]; exact (by decide : pm_words [(3, 0)] ≤ 1)) ?_
  rintro X av V0 hC - hR ⟨rfl, hV0⟩
  change pm_J X 0 [(0, (3, 45))] [] 118 V0
  have hT := F_X5_isWhole_eq 45 V0
  refine pm_aload_n hC 0 (by decide) dX5_isWhole_0 rfl ?_
  obtain ⟨y1, e2⟩ : ∃ y, V0 45 0 = y := ⟨_, rfl⟩
  have b3 := hV0.get 45 0 (lo := 0) (hi := 9) (by decide) (by decide) rfl
  rw [e2] at b3
  replace hT := hT.trans (pf_let_eq e2)
  refine pm_getf (v := y1) hC 45 fl_X5_27 rfl rfl (by decide) rfl e2 dX5_isWhole_1 ?_
  refine pm_iconst (v := 2) hC dX5_isWhole_4 ?_
  refine pm_icmp_lt (tgt := 26) hC ⟨by omega, by omega⟩ ⟨by decide, by decide⟩ dX5_isWhole_5 (by decide) (fun c4 => ?_) (fun c4 => ?_)
  · skip
    replace hT := hT.trans (if_pos c4)
    refine pm_iconst (v := 0) hC dX5_isWhole_26 ?_
    exact pm_iret hC hR (pm_narZ (by omega)) ⟨0, rfl, ⟨by omega, by omega⟩, rfl, hT⟩ dX5_isWhole_27
  · skip
    replace hT := hT.trans (if_neg (Int.not_lt.mpr c4))
    refine pm_aload_n hC 0 (by decide) dX5_isWhole_8 rfl ?_
    obtain ⟨y5, e6⟩ : ∃ y, V0 45 4 = y := ⟨_, rfl⟩
    have b7 := hV0.get 45 4 (lo := 0) (hi := 60) (by decide) (by decide) rfl
    rw [e6] at b7
    replace hT := hT.trans (pf_let_eq e6)
    refine pm_getf (v := y5) hC 45 fl_X5_31 rfl rfl (by decide) rfl e6 dX5_isWhole_9 ?_
    refine pm_if_le (tgt := 26) hC ⟨by omega, by omega⟩ dX5_isWhole_12 (by decide) (fun c8 => ?_) (fun c8 => ?_)
    · skip
      replace hT := hT.trans (if_pos c8)
      refine pm_iconst (v := 0) hC dX5_isWhole_26 ?_
      exact pm_iret hC hR (pm_narZ (by omega)) ⟨0, rfl, ⟨by omega, by omega⟩, rfl, hT⟩ dX5_isWhole_27
    · skip
      replace hT := hT.trans (if_neg (Int.not_le.mpr c8))
      refine pm_aload_n hC 0 (by decide) dX5_isWhole_15 rfl ?_
      obtain ⟨y9, e10⟩ : ∃ y, V0 45 6 = y := ⟨_, rfl⟩
      have b11 := hV0.get 45 6 (lo := 0) (hi := 60) (by decide) (by decide) rfl
      rw [e10] at b11
      replace hT := hT.trans (pf_let_eq e10)
      refine pm_getf (v := y9) hC 45 fl_X5_37 rfl rfl (by decide) rfl e10 dX5_isWhole_16 ?_
      refine pm_if_le (tgt := 26) hC ⟨by omega, by omega⟩ dX5_isWhole_19 (by decide) (fun c12 => ?_) (fun c12 => ?_)
      · skip
        replace hT := hT.trans (if_pos c12)
        refine pm_iconst (v := 0) hC dX5_isWhole_26 ?_
        exact pm_iret hC hR (pm_narZ (by omega)) ⟨0, rfl, ⟨by omega, by omega⟩, rfl, hT⟩ dX5_isWhole_27
      · skip
        replace hT := hT.trans (if_neg (Int.not_le.mpr c12))
        refine pm_iconst (v := 1) hC dX5_isWhole_22 ?_
        refine pm_goto (tgt := 27) hC dX5_isWhole_23 (by decide) ?_
        exact pm_iret hC hR (pm_narZ (by omega)) ⟨1, rfl, ⟨by omega, by omega⟩, rfl, hT⟩ dX5_isWhole_27
set_option maxHeartbeats 4000000 in
set_option maxRecDepth 100000 in
theorem fC_X6_read_45  : pm_K 6 yX6_read cX6_read 4 (some .int) (fun av V => av = [(3, 69), (3, 45)] ∧ pm_ok 0 90 V) (fun _ V r V' => ∃ y, r = some (0, y) ∧ ((-1) ≤ y ∧ y ≤ 500) ∧ pm_ok 0 90 V' ∧ pm_fr [3, 45, 46, 47, 48, 49, 50, 69, 70, 71] V V' ∧ F_X6_read 45 V = (y, V')) := by
  refine pm_MT.of (by decide) ⟨Nat.le_refl _, by decide⟩ (fun av V h => by rw [h.1]; exact (by decide : pm_words [(3, 0), (3, 0)] ≤ 4)) ?_
  rintro X av V0 hC - hR ⟨rfl, hV0⟩
  change pm_J X 0 [(0, (3, 69)), (1, (3, 45))] [] 118 V0
  have hT := F_X6_read_eq 45 V0
  refine pm_aload_n hC 0 (by decide) dX6_read_0 rfl ?_
  refine pm_aload_n hC 1 (by decide) dX6_read_1 rfl ?_
  refine pm_putf hC 69 fl_X6_23 rfl rfl rfl (by decide) rfl trivial dX6_read_2 ?_
  refine pm_aload_n hC 0 (by decide) dX6_read_5 rfl ?_
  refine pm_getf (v := 45) hC 69 fl_X6_23 rfl rfl (by decide) rfl rfl dX6_read_6 ?_
  refine pm_callV (ci := 5) (as := []) (st := []) hC 45 fC_X5_clear_45 lm_X6_38 li_X5_clear (by decide) (by decide) rfl rfl rfl (by decide) rfl rfl (Nat.le_of_ble_eq_true rfl) ⟨Nat.le_refl _, Or.inl rfl⟩ dX6_read_9 ⟨rfl, (hV0.put2 69 3 (x := 45) (lo := 45) (hi := 51) rfl ⟨by omega, by decide⟩)⟩ (fun r1 V2 hp3 => ?_)
  obtain ⟨rfl, hV4, hF5, hE6⟩ := hp3
  replace hT := hT.trans (pf_call_eq hE6)
  change pm_J X 12 [(0, (3, 69)), (1, (3, 45))] [] 118 V2
  have hF7 := pm_fr.tr ((pm_fr.rf (ws := [3, 45, 46, 47, 48, 49, 50, 69, 70, 71]) (V := V0)).up 69 3 45 rfl) hF5 (by decide)
  have e8 : V2 69 3 = 45 := by rw [hF5 69 (by decide)]; rfl
  refine pm_aload_n hC 0 (by decide) dX6_read_12 rfl ?_
  refine pm_iconst (v := 0) hC dX6_read_13 ?_
  refine pm_putf hC 69 fl_X6_27 rfl rfl rfl (by decide) rfl (by show _ = (0 : Int) ∨ _ = (1 : Int); omega) dX6_read_14 ?_
  refine pm_aload_n hC 0 (by decide) dX6_read_17 rfl ?_
  have e9 : V2 69 0 = 3 := hV4.one 69 0 (by decide) (by decide) rfl
  refine pm_getf (v := 3) hC 69 fl_X6_9 rfl rfl (by decide) rfl e9 dX6_read_18 ?_
  refine pm_callV (ci := 9) (as := []) (st := []) hC 3 fC_X9_begin lm_X6_43 li_X9_begin (by decide) (by decide) rfl rfl rfl (by decide) rfl rfl (Nat.le_of_ble_eq_true rfl) ⟨Nat.le_refl _, Or.inl rfl⟩ dX6_read_21 ⟨rfl, (hV4.put 69 4 (x := 0) (lo := 0) (hi := 1) rfl ⟨by decide, by decide⟩)⟩ (fun r10 V11 hp12 => ?_)
  obtain ⟨rfl, hV13, hF14, hE15⟩ := hp12
  replace hT := hT.trans (pf_call_eq hE15)
  change pm_J X 24 [(0, (3, 69)), (1, (3, 45))] [] 118 V11
  have hF16 := pm_fr.tr (hF7.up 69 4 0 rfl) hF14 (by decide)
  have e17 : V11 69 3 = 45 := by rw [hF14 69 (by decide)]; exact e8
  have e18 : V11 69 0 = 3 := by rw [hF14 69 (by decide)]; exact e9
  have e19 : V11 69 4 = 0 := by rw [hF14 69 (by decide)]; rfl
  refine pm_iconst (v := 1) hC dX6_read_24 ?_
  refine pm_istore_n (lv' := [(2, (0, 1)), (0, (3, 69)), (1, (3, 45))]) hC dX6_read_25 (by decide) rfl ?_
  refine pm_iconst (v := 0) hC dX6_read_26 ?_
  refine pm_istore_n (lv' := [(3, (0, 0)), (2, (0, 1)), (0, (3, 69)), (1, (3, 45))]) hC dX6_read_27 (by decide) rfl ?_
  obtain ⟨B28, hB29, hT⟩ := pf_loop hT
  have L31 : ∀ (N33 : Nat) (x20 : Int) (x22 : Int) (V24 : pm_M), (0 ≤ x20 ∧ x20 ≤ 1) → (0 ≤ x22 ∧ x22 ≤ 500) → pm_ok 0 90 V24 → pm_fr [3, 45, 46, 47, 48, 49, 50, 69, 70, 71] V0 V24 → V24 69 3 = 45 → F_X6_read 45 V0 = pf_val ((0 : Int), V0) B28 (x20, x22, V24) → (Int.toNat (500 - x22)) = N33 → pm_J X 28 [(0, (3, 69)), (1, (3, 45)), (2, (0, x20)), (3, (0, x22))] [] 118 V24 := by
    intro N33
    induction N33 using Nat.strongRecOn with
    | _ N33 ih34 =>
    intro x20 x22 V24 b21 b23 hV25 hF26 e27 hT hm32
    have hb30 := congrFun hB29 (x20, x22, V24)
    refine pm_iload_n hC 3 dX6_read_28 rfl ?_
    refine pm_sipush (v := 500) hC dX6_read_29 (by decide) ?_
    refine pm_icmp_ge (tgt := 60) hC ⟨by omega, by omega⟩ ⟨by decide, by decide⟩ dX6_read_32 (by decide) (fun c35 => ?_) (fun c35 => ?_)
    · skip
      replace hb30 := hb30.trans (if_pos c35)
      refine pm_iload_n hC 2 dX6_read_60 rfl ?_
      refine pm_if_eq (tgt := 78) hC ⟨by omega, by omega⟩ dX6_read_61 (by decide) (fun c36 => ?_) (fun c36 => ?_)
      · skip
        replace hb30 := hb30.trans (if_pos c36)
        refine pm_aload_n hC 0 (by decide) dX6_read_78 rfl ?_
        have e37 : V24 69 0 = 3 := hV25.one 69 0 (by decide) (by decide) rfl
        refine pm_getf (v := 3) hC 69 fl_X6_9 rfl rfl (by decide) rfl e37 dX6_read_79 ?_
        obtain ⟨y38, e39⟩ : ∃ y, V24 3 2 = y := ⟨_, rfl⟩
        have b40 := hV25.get 3 2 (lo := 0) (hi := 500) (by decide) (by decide) rfl
        rw [e39] at b40
        replace hb30 := hb30.trans (pf_let_eq e39)
        refine pm_getf (v := y38) hC 3 fl_X6_58 rfl rfl (by decide) rfl e39 dX6_read_82 ?_
        have hT := hT.trans (pf_val_inr hb30)
        exact pm_iret hC hR pm_nar0 ⟨y38, rfl, ⟨by omega, by omega⟩, hV25, hF26, hT⟩ dX6_read_85
      · skip
        replace hb30 := hb30.trans (if_neg c36)
        refine pm_aload_n hC 0 (by decide) dX6_read_64 rfl ?_
        refine pm_getf (v := 45) hC 69 fl_X6_23 rfl rfl (by decide) rfl e27 dX6_read_65 ?_
        refine pm_callV (ci := 5) (as := []) (st := []) hC 45 fC_X5_isWhole_45 lm_X6_55 li_X5_isWhole (by decide) (by decide) rfl rfl rfl (by decide) rfl rfl (Nat.le_of_ble_eq_true rfl) ⟨Nat.le_refl _, Or.inl rfl⟩ dX6_read_68 ⟨rfl, hV25⟩ (fun r41 V42 hp43 => ?_)
        obtain ⟨y44, rfl, b45, rfl, hE46⟩ := hp43
        replace hb30 := hb30.trans (pf_call_eq hE46)
        change pm_J X 71 [(0, (3, 69)), (1, (3, 45)), (2, (0, x20)), (3, (0, x22))] [(0, y44)] 118 V24
        refine pm_if_eq (tgt := 78) hC ⟨by omega, by omega⟩ dX6_read_71 (by decide) (fun c47 => ?_) (fun c47 => ?_)
        · skip
          replace hb30 := hb30.trans (if_pos c47)
          refine pm_aload_n hC 0 (by decide) dX6_read_78 rfl ?_
          have e48 : V24 69 0 = 3 := hV25.one 69 0 (by decide) (by decide) rfl
          refine pm_getf (v := 3) hC 69 fl_X6_9 rfl rfl (by decide) rfl e48 dX6_read_79 ?_
          obtain ⟨y49, e50⟩ : ∃ y, V24 3 2 = y := ⟨_, rfl⟩
          have b51 := hV25.get 3 2 (lo := 0) (hi := 500) (by decide) (by decide) rfl
          rw [e50] at b51
          replace hb30 := hb30.trans (pf_let_eq e50)
          refine pm_getf (v := y49) hC 3 fl_X6_58 rfl rfl (by decide) rfl e50 dX6_read_82 ?_
          have hT := hT.trans (pf_val_inr hb30)
          exact pm_iret hC hR pm_nar0 ⟨y49, rfl, ⟨by omega, by omega⟩, hV25, hF26, hT⟩ dX6_read_85
        · skip
          replace hb30 := hb30.trans (if_neg c47)
          refine pm_iconst (v := (-1)) hC dX6_read_74 ?_
          refine pm_goto (tgt := 85) hC dX6_read_75 (by decide) ?_
          have hT := hT.trans (pf_val_inr hb30)
          exact pm_iret hC hR pm_nar0 ⟨(-1), rfl, ⟨by omega, by omega⟩, hV25, hF26, hT⟩ dX6_read_85
    · skip
      replace hb30 := hb30.trans (if_neg (Int.not_le.mpr c35))
      refine pm_iload_n hC 2 dX6_read_35 rfl ?_
      refine pm_if_eq (tgt := 60) hC ⟨by omega, by omega⟩ dX6_read_36 (by decide) (fun c52 => ?_) (fun c52 => ?_)
      · skip
        replace hb30 := hb30.trans (if_pos c52)
        refine pm_iload_n hC 2 dX6_read_60 rfl ?_
        refine pm_if_eq (tgt := 78) hC ⟨by omega, by omega⟩ dX6_read_61 (by decide) (fun c53 => ?_) (fun c53 => ?_)
        · skip
          replace hb30 := hb30.trans (if_pos c53)
          refine pm_aload_n hC 0 (by decide) dX6_read_78 rfl ?_
          have e54 : V24 69 0 = 3 := hV25.one 69 0 (by decide) (by decide) rfl
          refine pm_getf (v := 3) hC 69 fl_X6_9 rfl rfl (by decide) rfl e54 dX6_read_79 ?_
          obtain ⟨y55, e56⟩ : ∃ y, V24 3 2 = y := ⟨_, rfl⟩
          have b57 := hV25.get 3 2 (lo := 0) (hi := 500) (by decide) (by decide) rfl
          rw [e56] at b57
          replace hb30 := hb30.trans (pf_let_eq e56)
          refine pm_getf (v := y55) hC 3 fl_X6_58 rfl rfl (by decide) rfl e56 dX6_read_82 ?_
          have hT := hT.trans (pf_val_inr hb30)
          exact pm_iret hC hR pm_nar0 ⟨y55, rfl, ⟨by omega, by omega⟩, hV25, hF26, hT⟩ dX6_read_85
        · skip
          replace hb30 := hb30.trans (if_neg c53)
          exfalso; omega
      · skip
        replace hb30 := hb30.trans (if_neg c52)
        refine pm_aload_n hC 0 (by decide) dX6_read_39 rfl ?_
        have e58 : V24 69 0 = 3 := hV25.one 69 0 (by decide) (by decide) rfl
        refine pm_getf (v := 3) hC 69 fl_X6_9 rfl rfl (by decide) rfl e58 dX6_read_40 ?_
        obtain ⟨y59, e60⟩ : ∃ y, V24 3 1 = y := ⟨_, rfl⟩
        have b61 := hV25.get 3 1 (lo := 0) (hi := 4) (by decide) (by decide) rfl
        rw [e60] at b61
        replace hb30 := hb30.trans (pf_let_eq e60)
        refine pm_getf (v := y59) hC 3 fl_X6_48 rfl rfl (by decide) rfl e60 dX6_read_43 ?_
        refine pm_if_eq (tgt := 60) hC ⟨by omega, by omega⟩ dX6_read_46 (by decide) (fun c62 => ?_) (fun c62 => ?_)
        · skip
          replace hb30 := hb30.trans (if_pos c62)
          refine pm_iload_n hC 2 dX6_read_60 rfl ?_
          refine pm_if_eq (tgt := 78) hC ⟨by omega, by omega⟩ dX6_read_61 (by decide) (fun c63 => ?_) (fun c63 => ?_)
          · skip
            replace hb30 := hb30.trans (if_pos c63)
            exfalso; omega
          · skip
            replace hb30 := hb30.trans (if_neg c63)
            refine pm_aload_n hC 0 (by decide) dX6_read_64 rfl ?_
            refine pm_getf (v := 45) hC 69 fl_X6_23 rfl rfl (by decide) rfl e27 dX6_read_65 ?_
            refine pm_callV (ci := 5) (as := []) (st := []) hC 45 fC_X5_isWhole_45 lm_X6_55 li_X5_isWhole (by decide) (by decide) rfl rfl rfl (by decide) rfl rfl (Nat.le_of_ble_eq_true rfl) ⟨Nat.le_refl _, Or.inl rfl⟩ dX6_read_68 ⟨rfl, hV25⟩ (fun r64 V65 hp66 => ?_)
            obtain ⟨y67, rfl, b68, rfl, hE69⟩ := hp66
            replace hb30 := hb30.trans (pf_call_eq hE69)
            change pm_J X 71 [(0, (3, 69)), (1, (3, 45)), (2, (0, x20)), (3, (0, x22))] [(0, y67)] 118 V24
            refine pm_if_eq (tgt := 78) hC ⟨by omega, by omega⟩ dX6_read_71 (by decide) (fun c70 => ?_) (fun c70 => ?_)
            · skip
              replace hb30 := hb30.trans (if_pos c70)
              refine pm_aload_n hC 0 (by decide) dX6_read_78 rfl ?_
              refine pm_getf (v := 3) hC 69 fl_X6_9 rfl rfl (by decide) rfl e58 dX6_read_79 ?_
              obtain ⟨y71, e72⟩ : ∃ y, V24 3 2 = y := ⟨_, rfl⟩
              have b73 := hV25.get 3 2 (lo := 0) (hi := 500) (by decide) (by decide) rfl
              rw [e72] at b73
              replace hb30 := hb30.trans (pf_let_eq e72)
              refine pm_getf (v := y71) hC 3 fl_X6_58 rfl rfl (by decide) rfl e72 dX6_read_82 ?_
              have hT := hT.trans (pf_val_inr hb30)
              exact pm_iret hC hR pm_nar0 ⟨y71, rfl, ⟨by omega, by omega⟩, hV25, hF26, hT⟩ dX6_read_85
            · skip
              replace hb30 := hb30.trans (if_neg c70)
              refine pm_iconst (v := (-1)) hC dX6_read_74 ?_
              refine pm_goto (tgt := 85) hC dX6_read_75 (by decide) ?_
              have hT := hT.trans (pf_val_inr hb30)
              exact pm_iret hC hR pm_nar0 ⟨(-1), rfl, ⟨by omega, by omega⟩, hV25, hF26, hT⟩ dX6_read_85
        · skip
          replace hb30 := hb30.trans (if_neg c62)
          refine pm_aload_n hC 0 (by decide) dX6_read_49 rfl ?_
          have q77 : 45 ≤ V24 69 3 ∧ V24 69 3 ≤ 45 := by (have e : V24 69 3 = 45 := e27); rw [e]; exact ⟨by decide, by decide⟩
          refine pm_callV (ci := 6) (as := []) (st := []) hC 69 fC_X6_readStatement_45 lm_X6_51 li_X6_readStatement (by decide) (by decide) rfl rfl rfl (by decide) rfl rfl (Nat.le_of_ble_eq_true rfl) ⟨Nat.le_refl _, Or.inl rfl⟩ dX6_read_50 ⟨rfl, hV25, q77⟩ (fun r74 V75 hp76 => ?_)
          obtain ⟨y78, rfl, b79, hV80, hF81, hq82, hE83⟩ := hp76
          replace hb30 := hb30.trans (pf_call_eq hE83)
          change pm_J X 53 [(0, (3, 69)), (1, (3, 45)), (2, (0, x20)), (3, (0, x22))] [(0, y78)] 118 V75
          have hF84 := pm_fr.tr hF26 hF81 (by decide)
          obtain ⟨z85, ez86⟩ : ∃ z, V75 69 3 = z := ⟨_, rfl⟩
          rw [ez86] at hq82
          have ez86n : V75 69 3 = 45 := by rw [ez86]; omega
          refine pm_istore_n (lv' := [(2, (0, y78)), (0, (3, 69)), (1, (3, 45)), (3, (0, x22))]) hC dX6_read_53 (by decide) rfl ?_
          obtain ⟨x87, ei88⟩ : ∃ y : Int, x22 + 1 = y := ⟨_, rfl⟩
          replace hb30 := hb30.trans (pf_let_eq ei88)
          refine pm_iinc (y := x87) (lv' := [(3, (0, x87)), (2, (0, y78)), (0, (3, 69)), (1, (3, 45))]) hC 3 dX6_read_54 (by decide) rfl ei88 rfl ?_
          refine pm_goto (tgt := 28) hC dX6_read_57 (by decide) ?_
          refine pm_lvsub [2, 3, 1, 0] (lv' := [(0, (3, 69)), (1, (3, 45)), (2, (0, y78)), (3, (0, x87))]) rfl ?_
          exact ih34 _ (by omega) y78 x87 V75 ⟨by omega, by omega⟩ ⟨by omega, by omega⟩ hV80 hF84 ez86n (hT.trans (pf_val_inl hb30)) rfl
  refine pm_lvsub [2, 3, 1, 0] (lv' := [(0, (3, 69)), (1, (3, 45)), (2, (0, 1)), (3, (0, 0))]) rfl ?_
  exact L31 _ 1 0 V11 ⟨by decide, by decide⟩ ⟨by decide, by decide⟩ hV13 hF16 e17 hT rfl
set_option maxHeartbeats 4000000 in
set_option maxRecDepth 100000 in
theorem fC_X6_findName_51  : pm_K 2 yX6_findName cX6_findName 2 (some .int) (fun av V => av = [(3, 69)] ∧ pm_ok 0 90 V ∧ (51 ≤ V 69 3 ∧ V 69 3 ≤ 51)) (fun _ V r V' => ∃ y, r = some (0, y) ∧ ((-1) ≤ y ∧ y ≤ 8) ∧ V = V' ∧ F_X6_findName 51 V = (y, V)) := by
  refine pm_MT.of (by decide) ⟨Nat.le_refl _, by decide⟩ (fun av V h => by rw [h.1]; exact (by decide : pm_words [(3, 0)] ≤ 2)) ?_
  rintro X av V0 hC - hR ⟨rfl, hV0, hq0⟩
  change pm_J X 0 [(0, (3, 69))] [] 118 V0
  have hT := F_X6_findName_eq 51 V0
  obtain ⟨z0, ez0⟩ : ∃ z, V0 69 3 = z := ⟨_, rfl⟩
  rw [ez0] at hq0
  have en0 : V0 69 3 = 51 := by rw [ez0]; omega
  refine pm_aload_n hC 0 (by decide) dX6_findName_0 rfl ?_
  have e1 : V0 69 0 = 3 := hV0.one 69 0 (by decide) (by decide) rfl
  refine pm_getf (v := 3) hC 69 fl_X6_9 rfl rfl (by decide) rfl e1 dX6_findName_1 ?_
  refine pm_callV (ci := 9) (as := []) (st := []) hC 3 fC_X9_isName lm_X6_101 li_X9_isName (by decide) (by decide) rfl rfl rfl (by decide) rfl rfl (Nat.le_of_ble_eq_true rfl) ⟨Nat.le_refl _, Or.inl rfl⟩ dX6_findName_4 ⟨rfl, hV0⟩ (fun r2 V3 hp4 => ?_)
  obtain ⟨y5, rfl, b6, rfl, hE7⟩ := hp4
  replace hT := hT.trans (pf_call_eq hE7)
  change pm_J X 7 [(0, (3, 69))] [(0, y5)] 118 V0
  refine pm_if_eq (tgt := 48) hC ⟨by omega, by omega⟩ dX6_findName_7 (by decide) (fun c8 => ?_) (fun c8 => ?_)
  · skip
    replace hT := hT.trans (if_pos c8)
    refine pm_iconst (v := (-1)) hC dX6_findName_48 ?_
    exact pm_iret hC hR pm_nar0 ⟨(-1), rfl, ⟨by omega, by omega⟩, rfl, hT⟩ dX6_findName_49
  · skip
    replace hT := hT.trans (if_neg c8)
    refine pm_iconst (v := 0) hC dX6_findName_10 ?_
    refine pm_istore_n (lv' := [(1, (0, 0)), (0, (3, 69))]) hC dX6_findName_11 (by decide) rfl ?_
    obtain ⟨B11, hB12, hT⟩ := pf_loop hT
    have L14 : ∀ (N16 : Nat) (x9 : Int), (0 ≤ x9 ∧ x9 ≤ 9) → F_X6_findName 51 V0 = pf_val ((0 : Int), V0) B11 x9 → (Int.toNat (9 - x9)) = N16 → pm_J X 12 [(0, (3, 69)), (1, (0, x9))] [] 118 V0 := by
      intro N16
      induction N16 using Nat.strongRecOn with
      | _ N16 ih17 =>
      intro x9 b10 hT hm15
      have hb13 := congrFun hB12 x9
      refine pm_iload_n hC 1 dX6_findName_12 rfl ?_
      refine pm_aload_n hC 0 (by decide) dX6_findName_13 rfl ?_
      refine pm_getf (v := 51) hC 69 fl_X6_23 rfl rfl (by decide) rfl en0 dX6_findName_14 ?_
      obtain ⟨y18, e19⟩ : ∃ y, V0 51 0 = y := ⟨_, rfl⟩
      have b20 := hV0.get 51 0 (lo := 0) (hi := 9) (by decide) (by decide) rfl
      rw [e19] at b20
      replace hb13 := hb13.trans (pf_let_eq e19)
      refine pm_getf (v := y18) hC 51 fl_X6_95 rfl rfl (by decide) rfl e19 dX6_findName_17 ?_
      refine pm_icmp_ge (tgt := 48) hC ⟨by omega, by omega⟩ ⟨by omega, by omega⟩ dX6_findName_20 (by decide) (fun c21 => ?_) (fun c21 => ?_)
      · skip
        replace hb13 := hb13.trans (if_pos c21)
        refine pm_iconst (v := (-1)) hC dX6_findName_48 ?_
        have hT := hT.trans (pf_val_inr hb13)
        exact pm_iret hC hR pm_nar0 ⟨(-1), rfl, ⟨by omega, by omega⟩, rfl, hT⟩ dX6_findName_49
      · skip
        replace hb13 := hb13.trans (if_neg (Int.not_le.mpr c21))
        refine pm_aload_n hC 0 (by decide) dX6_findName_23 rfl ?_
        have e22 : V0 69 1 = 70 := hV0.one 69 1 (by decide) (by decide) rfl
        refine pm_getf (v := 70) hC 69 fl_X6_15 rfl rfl (by decide) rfl e22 dX6_findName_24 ?_
        refine pm_iload_n hC 1 dX6_findName_27 rfl ?_
        obtain ⟨y23, e24⟩ : ∃ y, V0 70 (x9 : Int).toNat = y := ⟨_, rfl⟩
        replace hb13 := hb13.trans (pf_let_eq e24)
        have b25 := hV0.get 70 (x9 : Int).toNat (lo := (-9223372036854775808)) (hi := 9223372036854775807) (by decide) (show _ < 9 by omega) rfl
        rw [e24] at b25
        refine pm_laload (len := 9) (v := y23) hC 70 rfl rfl (by decide) ⟨by omega, by omega⟩ (by decide) e24 dX6_findName_28 ?_
        refine pm_aload_n hC 0 (by decide) dX6_findName_29 rfl ?_
        refine pm_getf (v := 3) hC 69 fl_X6_9 rfl rfl (by decide) rfl e1 dX6_findName_30 ?_
        obtain ⟨y26, e27⟩ : ∃ y, V0 3 3 = y := ⟨_, rfl⟩
        have b28 := hV0.get 3 3 (lo := (-9223372036854775808)) (hi := 9223372036854775807) (by decide) (by decide) rfl
        rw [e27] at b28
        replace hb13 := hb13.trans (pf_let_eq e27)
        refine pm_getf (v := y26) hC 3 fl_X6_108 rfl rfl (by decide) rfl e27 dX6_findName_33 ?_
        refine pm_lcmp hC ⟨by omega, by omega⟩ ⟨by omega, by omega⟩ dX6_findName_36 (fun y29 b30 => ?_)
        replace hb13 := hb13.trans (pf_let_eq (pm_cmp_u b30))
        refine pm_if_ne (tgt := 42) hC ⟨by omega, by omega⟩ dX6_findName_37 (by decide) (fun c31 => ?_) (fun c31 => ?_)
        · skip
          replace hb13 := hb13.trans (if_pos c31)
          obtain ⟨x32, ei33⟩ : ∃ y : Int, x9 + 1 = y := ⟨_, rfl⟩
          replace hb13 := hb13.trans (pf_let_eq ei33)
          refine pm_iinc (y := x32) (lv' := [(1, (0, x32)), (0, (3, 69))]) hC 1 dX6_findName_42 (by decide) rfl ei33 rfl ?_
          refine pm_goto (tgt := 12) hC dX6_findName_45 (by decide) ?_
          refine pm_lvsub [1, 0] (lv' := [(0, (3, 69)), (1, (0, x32))]) rfl ?_
          exact ih17 _ (by omega) x32 ⟨by omega, by omega⟩ (hT.trans (pf_val_inl hb13)) rfl
        · skip
          replace hb13 := hb13.trans (if_neg (fun q => q c31))
          refine pm_iload_n hC 1 dX6_findName_40 rfl ?_
          have hT := hT.trans (pf_val_inr hb13)
          exact pm_iret hC hR pm_nar0 ⟨x9, rfl, ⟨by omega, by omega⟩, rfl, hT⟩ dX6_findName_41
    refine pm_lvsub [1, 0] (lv' := [(0, (3, 69)), (1, (0, 0))]) rfl ?_
    exact L14 _ 0 ⟨by decide, by decide⟩ hT rfl
set_option maxHeartbeats 4000000 in
set_option maxRecDepth 100000 in
theorem fC_X5_learntOf_51 (a1 a2 : Int) (h0 : 0 ≤ a1 ∧ a1 ≤ 8) (h1 : 0 ≤ a2 ∧ a2 ≤ 8) : pm_K 1 yX5_learntOf cX5_learntOf 4 (some .int) (fun av V => av = [(3, 51), (0, a1), (0, a2)] ∧ pm_ok 0 90 V) (fun _ V r V' => ∃ y, r = some (0, y) ∧ ((-1) ≤ y ∧ y ≤ 8) ∧ V = V' ∧ F_X5_learntOf 51 a1 a2 V = (y, V)) := by
  refine pm_MT.of (by decide) ⟨Nat.le_refl _, by decide⟩ (fun av V h => by rw [h.1]; exact (by decide : pm_words [(3, 0), (0, 0), (0, 0)] ≤ 4)) ?_
  rintro X av V0 hC - hR ⟨rfl, hV0⟩
  change pm_J X 0 [(0, (3, 51)), (1, (0, a1)), (2, (0, a2))] [] 118 V0
  have hT := F_X5_learntOf_eq 51 a1 a2 V0
  refine pm_iconst (v := 0) hC dX5_learntOf_0 ?_
  refine pm_istore_n (lv' := [(3, (0, 0)), (0, (3, 51)), (1, (0, a1)), (2, (0, a2))]) hC dX5_learntOf_1 (by decide) rfl ?_
  obtain ⟨B3, hB4, hT⟩ := pf_loop hT
  have L6 : ∀ (N8 : Nat) (x1 : Int), (0 ≤ x1 ∧ x1 ≤ 16) → F_X5_learntOf 51 a1 a2 V0 = pf_val ((0 : Int), V0) B3 x1 → (Int.toNat (16 - x1)) = N8 → pm_J X 2 [(0, (3, 51)), (1, (0, a1)), (2, (0, a2)), (3, (0, x1))] [] 118 V0 := by
    intro N8
    induction N8 using Nat.strongRecOn with
    | _ N8 ih9 =>
    intro x1 b2 hT hm7
    have hb5 := congrFun hB4 x1
    refine pm_iload_n hC 3 dX5_learntOf_2 rfl ?_
    refine pm_aload_n hC 0 (by decide) dX5_learntOf_3 rfl ?_
    obtain ⟨y10, e11⟩ : ∃ y, V0 51 10 = y := ⟨_, rfl⟩
    have b12 := hV0.get 51 10 (lo := 0) (hi := 12) (by decide) (by decide) rfl
    rw [e11] at b12
    replace hb5 := hb5.trans (pf_let_eq e11)
    refine pm_getf (v := y10) hC 51 fl_X5_49 rfl rfl (by decide) rfl e11 dX5_learntOf_4 ?_
    refine pm_icmp_ge (tgt := 38) hC ⟨by omega, by omega⟩ ⟨by omega, by omega⟩ dX5_learntOf_7 (by decide) (fun c13 => ?_) (fun c13 => ?_)
    · skip
      replace hb5 := hb5.trans (if_pos c13)
      refine pm_iconst (v := (-1)) hC dX5_learntOf_38 ?_
      have hT := hT.trans (pf_val_inr hb5)
      exact pm_iret hC hR pm_nar0 ⟨(-1), rfl, ⟨by omega, by omega⟩, rfl, hT⟩ dX5_learntOf_39
    · skip
      replace hb5 := hb5.trans (if_neg (Int.not_le.mpr c13))
      refine pm_aload_n hC 0 (by decide) dX5_learntOf_10 rfl ?_
      have e14 : V0 51 11 = 55 := hV0.one 51 11 (by decide) (by decide) rfl
      refine pm_getf (v := 55) hC 51 fl_X5_21 rfl rfl (by decide) rfl e14 dX5_learntOf_11 ?_
      refine pm_iload_n hC 3 dX5_learntOf_14 rfl ?_
      obtain ⟨y15, e16⟩ : ∃ y, V0 55 (x1 : Int).toNat = y := ⟨_, rfl⟩
      replace hb5 := hb5.trans (pf_let_eq e16)
      have b17 := hV0.get 55 (x1 : Int).toNat (lo := 0) (hi := 99) (by decide) (show _ < 12 by omega) rfl
      rw [e16] at b17
      refine pm_iaload (len := 12) (v := y15) hC 55 rfl rfl (by decide) ⟨by omega, by omega⟩ (by decide) e16 dX5_learntOf_15 ?_
      refine pm_iload_n hC 1 dX5_learntOf_16 rfl ?_
      refine pm_bipush (v := 10) hC dX5_learntOf_17 (by decide) ?_
      refine pm_imul hC dX5_learntOf_19 ?_
      refine pm_iload_n hC 2 dX5_learntOf_20 rfl ?_
      refine pm_iadd hC dX5_learntOf_21 ?_
      refine pm_icmp_ne (tgt := 32) hC ⟨by omega, by omega⟩ ⟨by omega, by omega⟩ dX5_learntOf_22 (by decide) (fun c18 => ?_) (fun c18 => ?_)
      · skip
        replace hb5 := hb5.trans (if_pos c18)
        obtain ⟨x19, ei20⟩ : ∃ y : Int, x1 + 1 = y := ⟨_, rfl⟩
        replace hb5 := hb5.trans (pf_let_eq ei20)
        refine pm_iinc (y := x19) (lv' := [(3, (0, x19)), (0, (3, 51)), (1, (0, a1)), (2, (0, a2))]) hC 3 dX5_learntOf_32 (by decide) rfl ei20 rfl ?_
        refine pm_goto (tgt := 2) hC dX5_learntOf_35 (by decide) ?_
        refine pm_lvsub [1, 2, 3, 0] (lv' := [(0, (3, 51)), (1, (0, a1)), (2, (0, a2)), (3, (0, x19))]) rfl ?_
        exact ih9 _ (by omega) x19 ⟨by omega, by omega⟩ (hT.trans (pf_val_inl hb5)) rfl
      · skip
        replace hb5 := hb5.trans (if_neg (fun q => q c18))
        refine pm_aload_n hC 0 (by decide) dX5_learntOf_25 rfl ?_
        have e21 : V0 51 12 = 56 := hV0.one 51 12 (by decide) (by decide) rfl
        refine pm_getf (v := 56) hC 51 fl_X5_24 rfl rfl (by decide) rfl e21 dX5_learntOf_26 ?_
        refine pm_iload_n hC 3 dX5_learntOf_29 rfl ?_
        obtain ⟨y22, e23⟩ : ∃ y, V0 56 (x1 : Int).toNat = y := ⟨_, rfl⟩
        replace hb5 := hb5.trans (pf_let_eq e23)
        have b24 := hV0.get 56 (x1 : Int).toNat (lo := 0) (hi := 8) (by decide) (show _ < 12 by omega) rfl
        rw [e23] at b24
        refine pm_iaload (len := 12) (v := y22) hC 56 rfl rfl (by decide) ⟨by omega, by omega⟩ (by decide) e23 dX5_learntOf_30 ?_
        have hT := hT.trans (pf_val_inr hb5)
        exact pm_iret hC hR pm_nar0 ⟨y22, rfl, ⟨by omega, by omega⟩, rfl, hT⟩ dX5_learntOf_31
  refine pm_lvsub [1, 2, 3, 0] (lv' := [(0, (3, 51)), (1, (0, a1)), (2, (0, a2)), (3, (0, 0))]) rfl ?_
  exact L6 _ 0 ⟨by decide, by decide⟩ hT rfl
set_option maxHeartbeats 4000000 in
set_option maxRecDepth 100000 in
theorem fC_X6_closes_51  : pm_K 3 yX6_closes cX6_closes 1 (some .boolean) (fun av V => av = [(3, 69)] ∧ pm_ok 0 90 V ∧ (51 ≤ V 69 3 ∧ V 69 3 ≤ 51)) (fun _ V r V' => ∃ y, r = some (0, y) ∧ (0 ≤ y ∧ y ≤ 1) ∧ pm_ok 0 90 V' ∧ pm_fr [3] V V' ∧ F_X6_closes 51 V = (y, V')) := by
  refine pm_MT.of (by decide) ⟨Nat.le_refl _, by decide⟩ (fun av V h => by rw [h.1]; exact (by decide : pm_words [(3, 0)] ≤ 1)) ?_
  rintro X av V0 hC - hR ⟨rfl, hV0, hq0⟩
  change pm_J X 0 [(0, (3, 69))] [] 118 V0
  have hT := F_X6_closes_eq 51 V0
  obtain ⟨z0, ez0⟩ : ∃ z, V0 69 3 = z := ⟨_, rfl⟩
  rw [ez0] at hq0
  have en0 : V0 69 3 = 51 := by rw [ez0]; omega
  refine pm_aload_n hC 0 (by decide) dX6_closes_0 rfl ?_
  have e1 : V0 69 0 = 3 := hV0.one 69 0 (by decide) (by decide) rfl
  refine pm_getf (v := 3) hC 69 fl_X6_9 rfl rfl (by decide) rfl e1 dX6_closes_1 ?_
  refine pm_bipush (v := 59) hC dX6_closes_4 (by decide) ?_
  obtain ⟨y2, e3⟩ : ∃ y, V0 3 3 = y := ⟨_, rfl⟩
  have b4 := hV0.get 3 3 (lo := (-9223372036854775808)) (hi := 9223372036854775807) (by decide) (by decide) rfl
  rw [e3] at b4
  replace hT := hT.trans (pf_let_eq e3)
  refine pm_callV (ci := 9) (as := [(0, 59)]) (st := []) hC 3 (fC_X9_isSign 59 ⟨by decide, by decide⟩) lm_X6_167 li_X9_isSign (by decide) (by decide) rfl rfl rfl (by decide) rfl rfl (Nat.le_of_ble_eq_true rfl) ⟨Nat.le_refl _, Or.inl rfl⟩ dX6_closes_6 ⟨rfl, hV0⟩ (fun r5 V6 hp7 => ?_)
  obtain ⟨y8, rfl, b9, rfl, hE10⟩ := hp7
  replace hT := hT.trans (pf_call_eq hE10)
  change pm_J X 9 [(0, (3, 69))] [(0, y8)] 118 V0
  refine pm_if_ne (tgt := 14) hC ⟨by omega, by omega⟩ dX6_closes_9 (by decide) (fun c11 => ?_) (fun c11 => ?_)
  · skip
    replace hT := hT.trans (if_pos c11)
    refine pm_aload_n hC 0 (by decide) dX6_closes_14 rfl ?_
    refine pm_getf (v := 3) hC 69 fl_X6_9 rfl rfl (by decide) rfl e1 dX6_closes_15 ?_
    refine pm_callV (ci := 9) (as := []) (st := []) hC 3 fC_X9_step lm_X6_98 li_X9_step (by decide) (by decide) rfl rfl rfl (by decide) rfl rfl (Nat.le_of_ble_eq_true rfl) ⟨Nat.le_refl _, Or.inl rfl⟩ dX6_closes_18 ⟨rfl, hV0⟩ (fun r12 V13 hp14 => ?_)
    obtain ⟨rfl, hV15, hF16, hE17⟩ := hp14
    replace hT := hT.trans (pf_call_eq hE17)
    change pm_J X 21 [(0, (3, 69))] [] 118 V13
    have hF18 := pm_fr.tr (pm_fr.rf (ws := [3]) (V := V0)) hF16 (by decide)
    have e19 : V13 69 3 = 51 := by rw [hF16 69 (by decide)]; exact en0
    have e20 : V13 69 0 = 3 := by rw [hF16 69 (by decide)]; exact e1
    refine pm_iconst (v := 1) hC dX6_closes_21 ?_
    exact pm_iret hC hR (pm_narZ (by omega)) ⟨1, rfl, ⟨by omega, by omega⟩, hV15, hF18, hT⟩ dX6_closes_22
  · skip
    replace hT := hT.trans (if_neg (fun q => q c11))
    refine pm_iconst (v := 0) hC dX6_closes_12 ?_
    exact pm_iret hC hR (pm_narZ (by omega)) ⟨0, rfl, ⟨by omega, by omega⟩, hV0, (pm_fr.rf (ws := [3]) (V := V0)), hT⟩ dX6_closes_13
set_option maxHeartbeats 4000000 in
set_option maxRecDepth 100000 in
theorem fC_X6_readLearn_51  : pm_K 4 yX6_readLearn cX6_readLearn 5 (some .boolean) (fun av V => av = [(3, 69)] ∧ pm_ok 0 90 V ∧ (51 ≤ V 69 3 ∧ V 69 3 ≤ 51)) (fun _ V r V' => ∃ y, r = some (0, y) ∧ (0 ≤ y ∧ y ≤ 1) ∧ pm_ok 0 90 V' ∧ pm_fr [3, 51, 55, 56] V V' ∧ F_X6_readLearn 51 V = (y, V')) := by
  refine pm_MT.of (by decide) ⟨Nat.le_refl _, by decide⟩ (fun av V h => by rw [h.1]; exact (by decide : pm_words [(3, 0)] ≤ 5)) ?_
  rintro X av V0 hC - hR ⟨rfl, hV0, hq0⟩
  change pm_J X 0 [(0, (3, 69))] [] 118 V0
  have hT := F_X6_readLearn_eq 51 V0
  obtain ⟨z0, ez0⟩ : ∃ z, V0 69 3 = z := ⟨_, rfl⟩
  rw [ez0] at hq0
  have en0 : V0 69 3 = 51 := by rw [ez0]; omega
  refine pm_aload_n hC 0 (by decide) dX6_readLearn_0 rfl ?_
  refine pm_getf (v := 51) hC 69 fl_X6_23 rfl rfl (by decide) rfl en0 dX6_readLearn_1 ?_
  obtain ⟨y1, e2⟩ : ∃ y, V0 51 10 = y := ⟨_, rfl⟩
  have b3 := hV0.get 51 10 (lo := 0) (hi := 12) (by decide) (by decide) rfl
  rw [e2] at b3
  replace hT := hT.trans (pf_let_eq e2)
  refine pm_getf (v := y1) hC 51 fl_X6_154 rfl rfl (by decide) rfl e2 dX6_readLearn_4 ?_
  refine pm_istore_n (lv' := [(1, (0, y1)), (0, (3, 69))]) hC dX6_readLearn_7 (by decide) rfl ?_
  refine pm_iload_n hC 0 dX6_readLearn_8 rfl ?_
  refine pm_bipush (v := 12) hC dX6_readLearn_9 (by decide) ?_
  refine pm_icmp_lt (tgt := 16) hC ⟨by omega, by omega⟩ ⟨by decide, by decide⟩ dX6_readLearn_11 (by decide) (fun c4 => ?_) (fun c4 => ?_)
  · skip
    replace hT := hT.trans (if_pos c4)
    refine pm_aload_n hC 1 (by decide) dX6_readLearn_16 rfl ?_
    have e5 : V0 69 0 = 3 := hV0.one 69 0 (by decide) (by decide) rfl
    refine pm_getf (v := 3) hC 69 fl_X6_9 rfl rfl (by decide) rfl e5 dX6_readLearn_17 ?_
    refine pm_callV (ci := 9) (as := []) (st := []) hC 3 fC_X9_step lm_X6_98 li_X9_step (by decide) (by decide) rfl rfl rfl (by decide) rfl rfl (Nat.le_of_ble_eq_true rfl) ⟨Nat.le_refl _, Or.inl rfl⟩ dX6_readLearn_20 ⟨rfl, hV0⟩ (fun r6 V7 hp8 => ?_)
    obtain ⟨rfl, hV9, hF10, hE11⟩ := hp8
    replace hT := hT.trans (pf_call_eq hE11)
    change pm_J X 23 [(1, (0, y1)), (0, (3, 69))] [] 118 V7
    have hF12 := pm_fr.tr (pm_fr.rf (ws := [3, 51, 55, 56]) (V := V0)) hF10 (by decide)
    have e13 : V7 69 3 = 51 := by rw [hF10 69 (by decide)]; exact en0
    have e14 : V7 51 10 = y1 := by rw [hF10 51 (by decide)]; exact e2
    have e15 : V7 69 0 = 3 := by rw [hF10 69 (by decide)]; exact e5
    refine pm_aload_n hC 1 (by decide) dX6_readLearn_23 rfl ?_
    have q19 : 51 ≤ V7 69 3 ∧ V7 69 3 ≤ 51 := by (have e : V7 69 3 = 51 := e13); rw [e]; exact ⟨by decide, by decide⟩
    refine pm_callV (ci := 6) (as := []) (st := []) hC 69 fC_X6_findName_51 lm_X6_104 li_X6_findName (by decide) (by decide) rfl rfl rfl (by decide) rfl rfl (Nat.le_of_ble_eq_true rfl) ⟨Nat.le_refl _, Or.inl rfl⟩ dX6_readLearn_24 ⟨rfl, hV9, q19⟩ (fun r16 V17 hp18 => ?_)
    obtain ⟨y20, rfl, b21, rfl, hE22⟩ := hp18
    replace hT := hT.trans (pf_call_eq hE22)
    change pm_J X 27 [(1, (0, y1)), (0, (3, 69))] [(0, y20)] 118 V7
    refine pm_istore_n (lv' := [(2, (0, y20)), (1, (0, y1)), (0, (3, 69))]) hC dX6_readLearn_27 (by decide) rfl ?_
    refine pm_iload_n hC 0 dX6_readLearn_28 rfl ?_
    refine pm_iconst (v := (-1)) hC dX6_readLearn_29 ?_
    refine pm_icmp_ne (tgt := 35) hC ⟨by omega, by omega⟩ ⟨by decide, by decide⟩ dX6_readLearn_30 (by decide) (fun c23 => ?_) (fun c23 => ?_)
    · skip
      replace hT := hT.trans (if_pos c23)
      refine pm_aload_n hC 2 (by decide) dX6_readLearn_35 rfl ?_
      refine pm_getf (v := 3) hC 69 fl_X6_9 rfl rfl (by decide) rfl e15 dX6_readLearn_36 ?_
      refine pm_callV (ci := 9) (as := []) (st := []) hC 3 fC_X9_step lm_X6_98 li_X9_step (by decide) (by decide) rfl rfl rfl (by decide) rfl rfl (Nat.le_of_ble_eq_true rfl) ⟨Nat.le_refl _, Or.inl rfl⟩ dX6_readLearn_39 ⟨rfl, hV9⟩ (fun r24 V25 hp26 => ?_)
      obtain ⟨rfl, hV27, hF28, hE29⟩ := hp26
      replace hT := hT.trans (pf_call_eq hE29)
      change pm_J X 42 [(2, (0, y20)), (1, (0, y1)), (0, (3, 69))] [] 118 V25
      have hF30 := pm_fr.tr hF12 hF28 (by decide)
      have e31 : V25 69 3 = 51 := by rw [hF28 69 (by decide)]; exact e13
      have e32 : V25 51 10 = y1 := by rw [hF28 51 (by decide)]; exact e14
      have e33 : V25 69 0 = 3 := by rw [hF28 69 (by decide)]; exact e15
      refine pm_aload_n hC 2 (by decide) dX6_readLearn_42 rfl ?_
      have q37 : 51 ≤ V25 69 3 ∧ V25 69 3 ≤ 51 := by (have e : V25 69 3 = 51 := e31); rw [e]; exact ⟨by decide, by decide⟩
      refine pm_callV (ci := 6) (as := []) (st := []) hC 69 fC_X6_findName_51 lm_X6_104 li_X6_findName (by decide) (by decide) rfl rfl rfl (by decide) rfl rfl (Nat.le_of_ble_eq_true rfl) ⟨Nat.le_refl _, Or.inl rfl⟩ dX6_readLearn_43 ⟨rfl, hV27, q37⟩ (fun r34 V35 hp36 => ?_)
      obtain ⟨y38, rfl, b39, rfl, hE40⟩ := hp36
      replace hT := hT.trans (pf_call_eq hE40)
      change pm_J X 46 [(2, (0, y20)), (1, (0, y1)), (0, (3, 69))] [(0, y38)] 118 V25
      refine pm_istore_n (lv' := [(3, (0, y38)), (2, (0, y20)), (1, (0, y1)), (0, (3, 69))]) hC dX6_readLearn_46 (by decide) rfl ?_
      refine pm_iload_n hC 0 dX6_readLearn_47 rfl ?_
      refine pm_iconst (v := (-1)) hC dX6_readLearn_48 ?_
      refine pm_icmp_eq (tgt := 65) hC ⟨by omega, by omega⟩ ⟨by decide, by decide⟩ dX6_readLearn_49 (by decide) (fun c41 => ?_) (fun c41 => ?_)
      · skip
        replace hT := hT.trans (if_pos c41)
        refine pm_iconst (v := 0) hC dX6_readLearn_65 ?_
        exact pm_iret hC hR (pm_narZ (by omega)) ⟨0, rfl, ⟨by omega, by omega⟩, hV27, hF30, hT⟩ dX6_readLearn_66
      · skip
        replace hT := hT.trans (if_neg c41)
        refine pm_aload_n hC 3 (by decide) dX6_readLearn_52 rfl ?_
        refine pm_getf (v := 51) hC 69 fl_X6_23 rfl rfl (by decide) rfl e31 dX6_readLearn_53 ?_
        refine pm_iload_n hC 1 dX6_readLearn_56 rfl ?_
        refine pm_iload_n hC 0 dX6_readLearn_57 rfl ?_
        refine pm_callV (ci := 5) (as := [(0, y20), (0, y38)]) (st := []) hC 51 (fC_X5_learntOf_51 y20 y38 ⟨by omega, by omega⟩ ⟨by omega, by omega⟩) lm_X6_157 li_X5_learntOf (by decide) (by decide) rfl rfl rfl (by decide) rfl rfl (Nat.le_of_ble_eq_true rfl) ⟨Nat.le_refl _, Or.inl rfl⟩ dX6_readLearn_58 ⟨rfl, hV27⟩ (fun r42 V43 hp44 => ?_)
        obtain ⟨y45, rfl, b46, rfl, hE47⟩ := hp44
        replace hT := hT.trans (pf_call_eq hE47)
        change pm_J X 61 [(3, (0, y38)), (2, (0, y20)), (1, (0, y1)), (0, (3, 69))] [(0, y45)] 118 V25
        refine pm_iconst (v := (-1)) hC dX6_readLearn_61 ?_
        refine pm_icmp_eq (tgt := 67) hC ⟨by omega, by omega⟩ ⟨by decide, by decide⟩ dX6_readLearn_62 (by decide) (fun c48 => ?_) (fun c48 => ?_)
        · skip
          replace hT := hT.trans (if_pos c48)
          refine pm_aload_n hC 3 (by decide) dX6_readLearn_67 rfl ?_
          refine pm_getf (v := 3) hC 69 fl_X6_9 rfl rfl (by decide) rfl e33 dX6_readLearn_68 ?_
          refine pm_callV (ci := 9) (as := []) (st := []) hC 3 fC_X9_step lm_X6_98 li_X9_step (by decide) (by decide) rfl rfl rfl (by decide) rfl rfl (Nat.le_of_ble_eq_true rfl) ⟨Nat.le_refl _, Or.inl rfl⟩ dX6_readLearn_71 ⟨rfl, hV27⟩ (fun r49 V50 hp51 => ?_)
          obtain ⟨rfl, hV52, hF53, hE54⟩ := hp51
          replace hT := hT.trans (pf_call_eq hE54)
          change pm_J X 74 [(3, (0, y38)), (2, (0, y20)), (1, (0, y1)), (0, (3, 69))] [] 118 V50
          have hF55 := pm_fr.tr hF30 hF53 (by decide)
          have e56 : V50 69 3 = 51 := by rw [hF53 69 (by decide)]; exact e31
          have e57 : V50 51 10 = y1 := by rw [hF53 51 (by decide)]; exact e32
          have e58 : V50 69 0 = 3 := by rw [hF53 69 (by decide)]; exact e33
          refine pm_aload_n hC 3 (by decide) dX6_readLearn_74 rfl ?_
          have q62 : 51 ≤ V50 69 3 ∧ V50 69 3 ≤ 51 := by (have e : V50 69 3 = 51 := e56); rw [e]; exact ⟨by decide, by decide⟩
          refine pm_callV (ci := 6) (as := []) (st := []) hC 69 fC_X6_findName_51 lm_X6_104 li_X6_findName (by decide) (by decide) rfl rfl rfl (by decide) rfl rfl (Nat.le_of_ble_eq_true rfl) ⟨Nat.le_refl _, Or.inl rfl⟩ dX6_readLearn_75 ⟨rfl, hV52, q62⟩ (fun r59 V60 hp61 => ?_)
          obtain ⟨y63, rfl, b64, rfl, hE65⟩ := hp61
          replace hT := hT.trans (pf_call_eq hE65)
          change pm_J X 78 [(3, (0, y38)), (2, (0, y20)), (1, (0, y1)), (0, (3, 69))] [(0, y63)] 118 V50
          refine pm_istore (lv' := [(4, (0, y63)), (3, (0, y38)), (2, (0, y20)), (1, (0, y1)), (0, (3, 69))]) hC dX6_readLearn_78 (by decide) rfl ?_
          refine pm_iload hC 0 dX6_readLearn_80 rfl ?_
          refine pm_iconst (v := (-1)) hC dX6_readLearn_82 ?_
          refine pm_icmp_ne (tgt := 88) hC ⟨by omega, by omega⟩ ⟨by decide, by decide⟩ dX6_readLearn_83 (by decide) (fun c66 => ?_) (fun c66 => ?_)
          · skip
            replace hT := hT.trans (if_pos c66)
            refine pm_aload_n hC 4 (by decide) dX6_readLearn_88 rfl ?_
            refine pm_getf (v := 51) hC 69 fl_X6_23 rfl rfl (by decide) rfl e56 dX6_readLearn_89 ?_
            have e67 : V50 51 11 = 55 := hV52.one 51 11 (by decide) (by decide) rfl
            refine pm_getf (v := 55) hC 51 fl_X6_161 rfl rfl (by decide) rfl e67 dX6_readLearn_92 ?_
            refine pm_iload_n hC 3 dX6_readLearn_95 rfl ?_
            refine pm_iload_n hC 2 dX6_readLearn_96 rfl ?_
            refine pm_bipush (v := 10) hC dX6_readLearn_97 (by decide) ?_
            refine pm_imul hC dX6_readLearn_99 ?_
            refine pm_iload_n hC 1 dX6_readLearn_100 rfl ?_
            refine pm_iadd hC dX6_readLearn_101 ?_
            refine pm_iastore (len := 12) hC 55 rfl rfl (by decide) ⟨by omega, by omega⟩ (by decide) dX6_readLearn_102 ?_
            refine pm_aload_n hC 4 (by decide) dX6_readLearn_103 rfl ?_
            refine pm_getf (v := 51) hC 69 fl_X6_23 rfl rfl (by decide) rfl e56 dX6_readLearn_104 ?_
            have e68 : V50 51 12 = 56 := hV52.one 51 12 (by decide) (by decide) rfl
            refine pm_getf (v := 56) hC 51 fl_X6_164 rfl rfl (by decide) rfl e68 dX6_readLearn_107 ?_
            refine pm_iload_n hC 3 dX6_readLearn_110 rfl ?_
            refine pm_iload hC 0 dX6_readLearn_111 rfl ?_
            refine pm_iastore (len := 12) hC 56 rfl rfl (by decide) ⟨by omega, by omega⟩ (by decide) dX6_readLearn_113 ?_
            refine pm_aload_n hC 4 (by decide) dX6_readLearn_114 rfl ?_
            refine pm_getf (v := 51) hC 69 fl_X6_23 rfl rfl (by decide) rfl e56 dX6_readLearn_115 ?_
            refine pm_iload_n hC 3 dX6_readLearn_118 rfl ?_
            refine pm_iconst (v := 1) hC dX6_readLearn_119 ?_
            refine pm_iadd hC dX6_readLearn_120 ?_
            refine pm_putf hC 51 fl_X6_154 rfl rfl rfl (by decide) rfl trivial dX6_readLearn_121 ?_
            refine pm_aload_n hC 4 (by decide) dX6_readLearn_124 rfl ?_
            refine pm_getf (v := 3) hC 69 fl_X6_9 rfl rfl (by decide) rfl e58 dX6_readLearn_125 ?_
            refine pm_callV (ci := 9) (as := []) (st := []) hC 3 fC_X9_step lm_X6_98 li_X9_step (by decide) (by decide) rfl rfl rfl (by decide) rfl rfl (Nat.le_of_ble_eq_true rfl) ⟨Nat.le_refl _, Or.inl rfl⟩ dX6_readLearn_128 ⟨rfl, (((hV52.put 55 (y1 : Int).toNat (x := ((y20 * 10) + y38)) (lo := 0) (hi := 99) rfl ⟨by omega, by omega⟩).put 56 (y1 : Int).toNat (x := y63) (lo := 0) (hi := 8) rfl ⟨by omega, by omega⟩).put 51 10 (x := (y1 + 1)) (lo := 0) (hi := 12) rfl ⟨by omega, by omega⟩)⟩ (fun r69 V70 hp71 => ?_)
            obtain ⟨rfl, hV72, hF73, hE74⟩ := hp71
            replace hT := hT.trans (pf_call_eq hE74)
            change pm_J X 131 [(4, (0, y63)), (3, (0, y38)), (2, (0, y20)), (1, (0, y1)), (0, (3, 69))] [] 118 V70
            have hF75 := pm_fr.tr (((hF55.up 55 (y1 : Int).toNat ((y20 * 10) + y38) rfl).up 56 (y1 : Int).toNat y63 rfl).up 51 10 (y1 + 1) rfl) hF73 (by decide)
            have e76 : V70 69 3 = 51 := by rw [hF73 69 (by decide)]; exact e56
            have e77 : V70 69 0 = 3 := by rw [hF73 69 (by decide)]; exact e58
            have e78 : V70 51 11 = 55 := by rw [hF73 51 (by decide)]; exact e67
            have e79 : V70 51 12 = 56 := by rw [hF73 51 (by decide)]; exact e68
            have e80 : V70 51 10 = (y1 + 1) := by rw [hF73 51 (by decide)]; rfl
            refine pm_aload_n hC 4 (by decide) dX6_readLearn_131 rfl ?_
            have q84 : 51 ≤ V70 69 3 ∧ V70 69 3 ≤ 51 := by (have e : V70 69 3 = 51 := e76); rw [e]; exact ⟨by decide, by decide⟩
            refine pm_callV (ci := 6) (as := []) (st := []) hC 69 fC_X6_closes_51 lm_X6_129 li_X6_closes (by decide) (by decide) rfl rfl rfl (by decide) rfl rfl (Nat.le_of_ble_eq_true rfl) ⟨Nat.le_refl _, Or.inl rfl⟩ dX6_readLearn_132 ⟨rfl, hV72, q84⟩ (fun r81 V82 hp83 => ?_)
            obtain ⟨y85, rfl, b86, hV87, hF88, hE89⟩ := hp83
            replace hT := hT.trans (pf_call_eq hE89)
            change pm_J X 135 [(4, (0, y63)), (3, (0, y38)), (2, (0, y20)), (1, (0, y1)), (0, (3, 69))] [(0, y85)] 118 V82
            have hF90 := pm_fr.tr hF75 hF88 (by decide)
            have e91 : V82 69 3 = 51 := by rw [hF88 69 (by decide)]; exact e76
            have e92 : V82 69 0 = 3 := by rw [hF88 69 (by decide)]; exact e77
            have e93 : V82 51 11 = 55 := by rw [hF88 51 (by decide)]; exact e78
            have e94 : V82 51 12 = 56 := by rw [hF88 51 (by decide)]; exact e79
            have e95 : V82 51 10 = (y1 + 1) := by rw [hF88 51 (by decide)]; exact e80
            exact pm_iret hC hR (pm_narZ (by omega)) ⟨y85, rfl, ⟨by omega, by omega⟩, hV87, hF90, hT⟩ dX6_readLearn_135
          · skip
            replace hT := hT.trans (if_neg (fun q => q c66))
            refine pm_iconst (v := 0) hC dX6_readLearn_86 ?_
            exact pm_iret hC hR (pm_narZ (by omega)) ⟨0, rfl, ⟨by omega, by omega⟩, hV52, hF55, hT⟩ dX6_readLearn_87
        · skip
          replace hT := hT.trans (if_neg c48)
          refine pm_iconst (v := 0) hC dX6_readLearn_65 ?_
          exact pm_iret hC hR (pm_narZ (by omega)) ⟨0, rfl, ⟨by omega, by omega⟩, hV27, hF30, hT⟩ dX6_readLearn_66
    · skip
      replace hT := hT.trans (if_neg (fun q => q c23))
      refine pm_iconst (v := 0) hC dX6_readLearn_33 ?_
      exact pm_iret hC hR (pm_narZ (by omega)) ⟨0, rfl, ⟨by omega, by omega⟩, hV9, hF12, hT⟩ dX6_readLearn_34
  · skip
    replace hT := hT.trans (if_neg (Int.not_lt.mpr c4))
    refine pm_iconst (v := 0) hC dX6_readLearn_14 ?_
    exact pm_iret hC hR (pm_narZ (by omega)) ⟨0, rfl, ⟨by omega, by omega⟩, hV0, (pm_fr.rf (ws := [3, 51, 55, 56]) (V := V0)), hT⟩ dX6_readLearn_15
set_option maxHeartbeats 4000000 in
set_option maxRecDepth 100000 in
theorem fC_X6_readHold_51  : pm_K 4 yX6_readHold cX6_readHold 2 (some .boolean) (fun av V => av = [(3, 69)] ∧ pm_ok 0 90 V ∧ (51 ≤ V 69 3 ∧ V 69 3 ≤ 51)) (fun _ V r V' => ∃ y, r = some (0, y) ∧ (0 ≤ y ∧ y ≤ 1) ∧ pm_ok 0 90 V' ∧ pm_fr [3, 54, 71] V V' ∧ F_X6_readHold 51 V = (y, V')) := by
  refine pm_MT.of (by decide) ⟨Nat.le_refl _, by decide⟩ (fun av V h => by rw [h.1]; exact (by decide : pm_words [(3, 0)] ≤ 2)) ?_
  rintro X av V0 hC - hR ⟨rfl, hV0, hq0⟩
  change pm_J X 0 [(0, (3, 69))] [] 118 V0
  have hT := F_X6_readHold_eq 51 V0
  obtain ⟨z0, ez0⟩ : ∃ z, V0 69 3 = z := ⟨_, rfl⟩
  rw [ez0] at hq0
  have en0 : V0 69 3 = 51 := by rw [ez0]; omega
  refine pm_aload_n hC 0 (by decide) dX6_readHold_0 rfl ?_
  have e1 : V0 69 0 = 3 := hV0.one 69 0 (by decide) (by decide) rfl
  refine pm_getf (v := 3) hC 69 fl_X6_9 rfl rfl (by decide) rfl e1 dX6_readHold_1 ?_
  refine pm_callV (ci := 9) (as := []) (st := []) hC 3 fC_X9_step lm_X6_98 li_X9_step (by decide) (by decide) rfl rfl rfl (by decide) rfl rfl (Nat.le_of_ble_eq_true rfl) ⟨Nat.le_refl _, Or.inl rfl⟩ dX6_readHold_4 ⟨rfl, hV0⟩ (fun r2 V3 hp4 => ?_)
  obtain ⟨rfl, hV5, hF6, hE7⟩ := hp4
  replace hT := hT.trans (pf_call_eq hE7)
  change pm_J X 7 [(0, (3, 69))] [] 118 V3
  have hF8 := pm_fr.tr (pm_fr.rf (ws := [3, 54, 71]) (V := V0)) hF6 (by decide)
  have e9 : V3 69 3 = 51 := by rw [hF6 69 (by decide)]; exact en0
  have e10 : V3 69 0 = 3 := by rw [hF6 69 (by decide)]; exact e1
  refine pm_aload_n hC 0 (by decide) dX6_readHold_7 rfl ?_
  have q14 : 51 ≤ V3 69 3 ∧ V3 69 3 ≤ 51 := by (have e : V3 69 3 = 51 := e9); rw [e]; exact ⟨by decide, by decide⟩
  refine pm_callV (ci := 6) (as := []) (st := []) hC 69 fC_X6_findName_51 lm_X6_104 li_X6_findName (by decide) (by decide) rfl rfl rfl (by decide) rfl rfl (Nat.le_of_ble_eq_true rfl) ⟨Nat.le_refl _, Or.inl rfl⟩ dX6_readHold_8 ⟨rfl, hV5, q14⟩ (fun r11 V12 hp13 => ?_)
  obtain ⟨y15, rfl, b16, rfl, hE17⟩ := hp13
  replace hT := hT.trans (pf_call_eq hE17)
  change pm_J X 11 [(0, (3, 69))] [(0, y15)] 118 V3
  refine pm_istore_n (lv' := [(1, (0, y15)), (0, (3, 69))]) hC dX6_readHold_11 (by decide) rfl ?_
  refine pm_iload_n hC 0 dX6_readHold_12 rfl ?_
  refine pm_iconst (v := (-1)) hC dX6_readHold_13 ?_
  refine pm_icmp_eq (tgt := 26) hC ⟨by omega, by omega⟩ ⟨by decide, by decide⟩ dX6_readHold_14 (by decide) (fun c18 => ?_) (fun c18 => ?_)
  · skip
    replace hT := hT.trans (if_pos c18)
    refine pm_iconst (v := 0) hC dX6_readHold_26 ?_
    exact pm_iret hC hR (pm_narZ (by omega)) ⟨0, rfl, ⟨by omega, by omega⟩, hV5, hF8, hT⟩ dX6_readHold_27
  · skip
    replace hT := hT.trans (if_neg c18)
    refine pm_aload_n hC 1 (by decide) dX6_readHold_17 rfl ?_
    have e19 : V3 69 2 = 71 := hV5.one 69 2 (by decide) (by decide) rfl
    refine pm_getf (v := 71) hC 69 fl_X6_19 rfl rfl (by decide) rfl e19 dX6_readHold_18 ?_
    refine pm_iload_n hC 0 dX6_readHold_21 rfl ?_
    obtain ⟨y20, e21⟩ : ∃ y, V3 71 (y15 : Int).toNat = y := ⟨_, rfl⟩
    replace hT := hT.trans (pf_let_eq e21)
    have b22 := hV5.get 71 (y15 : Int).toNat (lo := 0) (hi := 1) (by decide) (show _ < 9 by omega) rfl
    rw [e21] at b22
    refine pm_zaload (len := 9) (v := y20) hC 71 rfl rfl (by decide) ⟨by omega, by omega⟩ (by decide) e21 dX6_readHold_22 ?_
    refine pm_if_eq (tgt := 28) hC ⟨by omega, by omega⟩ dX6_readHold_23 (by decide) (fun c23 => ?_) (fun c23 => ?_)
    · skip
      replace hT := hT.trans (if_pos c23)
      refine pm_aload_n hC 1 (by decide) dX6_readHold_28 rfl ?_
      refine pm_getf (v := 3) hC 69 fl_X6_9 rfl rfl (by decide) rfl e10 dX6_readHold_29 ?_
      refine pm_callV (ci := 9) (as := []) (st := []) hC 3 fC_X9_step lm_X6_98 li_X9_step (by decide) (by decide) rfl rfl rfl (by decide) rfl rfl (Nat.le_of_ble_eq_true rfl) ⟨Nat.le_refl _, Or.inl rfl⟩ dX6_readHold_32 ⟨rfl, hV5⟩ (fun r24 V25 hp26 => ?_)
      obtain ⟨rfl, hV27, hF28, hE29⟩ := hp26
      replace hT := hT.trans (pf_call_eq hE29)
      change pm_J X 35 [(1, (0, y15)), (0, (3, 69))] [] 118 V25
      have hF30 := pm_fr.tr hF8 hF28 (by decide)
      have e31 : V25 69 3 = 51 := by rw [hF28 69 (by decide)]; exact e9
      have e32 : V25 69 0 = 3 := by rw [hF28 69 (by decide)]; exact e10
      have e33 : V25 69 2 = 71 := by rw [hF28 69 (by decide)]; exact e19
      refine pm_aload_n hC 1 (by decide) dX6_readHold_35 rfl ?_
      refine pm_getf (v := 3) hC 69 fl_X6_9 rfl rfl (by decide) rfl e32 dX6_readHold_36 ?_
      refine pm_iconst (v := 1) hC dX6_readHold_39 ?_
      refine pm_bipush (v := 9) hC dX6_readHold_40 (by decide) ?_
      obtain ⟨y34, e35⟩ : ∃ y, V25 3 3 = y := ⟨_, rfl⟩
      have b36 := hV27.get 3 3 (lo := (-9223372036854775808)) (hi := 9223372036854775807) (by decide) (by decide) rfl
      rw [e35] at b36
      replace hT := hT.trans (pf_let_eq e35)
      refine pm_callV (ci := 9) (as := [(0, 1), (0, 9)]) (st := []) hC 3 (fC_X9_isNumber 1 9 ⟨by decide, by decide⟩ ⟨by decide, by decide⟩) lm_X6_112 li_X9_isNumber (by decide) (by decide) rfl rfl rfl (by decide) rfl rfl (Nat.le_of_ble_eq_true rfl) ⟨Nat.le_refl _, Or.inl rfl⟩ dX6_readHold_42 ⟨rfl, hV27⟩ (fun r37 V38 hp39 => ?_)
      obtain ⟨y40, rfl, b41, rfl, hE42⟩ := hp39
      replace hT := hT.trans (pf_call_eq hE42)
      change pm_J X 45 [(1, (0, y15)), (0, (3, 69))] [(0, y40)] 118 V25
      refine pm_if_ne (tgt := 50) hC ⟨by omega, by omega⟩ dX6_readHold_45 (by decide) (fun c43 => ?_) (fun c43 => ?_)
      · skip
        replace hT := hT.trans (if_pos c43)
        refine pm_aload_n hC 1 (by decide) dX6_readHold_50 rfl ?_
        refine pm_getf (v := 71) hC 69 fl_X6_19 rfl rfl (by decide) rfl e33 dX6_readHold_51 ?_
        refine pm_iload_n hC 0 dX6_readHold_54 rfl ?_
        refine pm_iconst (v := 1) hC dX6_readHold_55 ?_
        refine pm_zastore (len := 9) hC 71 rfl rfl (by decide) ⟨by omega, by omega⟩ (by decide) (by omega) dX6_readHold_56 ?_
        refine pm_aload_n hC 1 (by decide) dX6_readHold_57 rfl ?_
        refine pm_getf (v := 51) hC 69 fl_X6_23 rfl rfl (by decide) rfl e31 dX6_readHold_58 ?_
        have e44 : V25 51 3 = 54 := hV27.one 51 3 (by decide) (by decide) rfl
        refine pm_getf (v := 54) hC 51 fl_X6_126 rfl rfl (by decide) rfl e44 dX6_readHold_61 ?_
        refine pm_iload_n hC 0 dX6_readHold_64 rfl ?_
        refine pm_aload_n hC 1 (by decide) dX6_readHold_65 rfl ?_
        refine pm_getf (v := 3) hC 69 fl_X6_9 rfl rfl (by decide) rfl e32 dX6_readHold_66 ?_
        refine pm_getf (v := y34) hC 3 fl_X6_108 rfl rfl (by decide) rfl e35 dX6_readHold_69 ?_
        refine pm_l2i hC dX6_readHold_72 ?_
        refine pm_iastore (len := 9) hC 54 rfl rfl (by decide) ⟨by omega, by omega⟩ (by decide) dX6_readHold_73 ?_
        refine pm_aload_n hC 1 (by decide) dX6_readHold_74 rfl ?_
        refine pm_getf (v := 3) hC 69 fl_X6_9 rfl rfl (by decide) rfl e32 dX6_readHold_75 ?_
        refine pm_callV (ci := 9) (as := []) (st := []) hC 3 fC_X9_step lm_X6_98 li_X9_step (by decide) (by decide) rfl rfl rfl (by decide) rfl rfl (Nat.le_of_ble_eq_true rfl) ⟨Nat.le_refl _, Or.inl rfl⟩ dX6_readHold_78 ⟨rfl, ((hV27.put 71 (y15 : Int).toNat (x := 1) (lo := 0) (hi := 1) rfl ⟨by decide, by decide⟩).put 54 (y15 : Int).toNat (x := y34) (lo := 0) (hi := 9) rfl ⟨by omega, by omega⟩)⟩ (fun r45 V46 hp47 => ?_)
        obtain ⟨rfl, hV48, hF49, hE50⟩ := hp47
        replace hT := hT.trans (pf_call_eq hE50)
        change pm_J X 81 [(1, (0, y15)), (0, (3, 69))] [] 118 V46
        have hF51 := pm_fr.tr ((hF30.up 71 (y15 : Int).toNat 1 rfl).up 54 (y15 : Int).toNat y34 rfl) hF49 (by decide)
        have e52 : V46 69 3 = 51 := by rw [hF49 69 (by decide)]; exact e31
        have e53 : V46 69 0 = 3 := by rw [hF49 69 (by decide)]; exact e32
        have e54 : V46 69 2 = 71 := by rw [hF49 69 (by decide)]; exact e33
        have e55 : V46 51 3 = 54 := by rw [hF49 51 (by decide)]; exact e44
        refine pm_aload_n hC 1 (by decide) dX6_readHold_81 rfl ?_
        have q59 : 51 ≤ V46 69 3 ∧ V46 69 3 ≤ 51 := by (have e : V46 69 3 = 51 := e52); rw [e]; exact ⟨by decide, by decide⟩
        refine pm_callV (ci := 6) (as := []) (st := []) hC 69 fC_X6_closes_51 lm_X6_129 li_X6_closes (by decide) (by decide) rfl rfl rfl (by decide) rfl rfl (Nat.le_of_ble_eq_true rfl) ⟨Nat.le_refl _, Or.inl rfl⟩ dX6_readHold_82 ⟨rfl, hV48, q59⟩ (fun r56 V57 hp58 => ?_)
        obtain ⟨y60, rfl, b61, hV62, hF63, hE64⟩ := hp58
        replace hT := hT.trans (pf_call_eq hE64)
        change pm_J X 85 [(1, (0, y15)), (0, (3, 69))] [(0, y60)] 118 V57
        have hF65 := pm_fr.tr hF51 hF63 (by decide)
        have e66 : V57 69 3 = 51 := by rw [hF63 69 (by decide)]; exact e52
        have e67 : V57 69 0 = 3 := by rw [hF63 69 (by decide)]; exact e53
        have e68 : V57 69 2 = 71 := by rw [hF63 69 (by decide)]; exact e54
        have e69 : V57 51 3 = 54 := by rw [hF63 51 (by decide)]; exact e55
        exact pm_iret hC hR (pm_narZ (by omega)) ⟨y60, rfl, ⟨by omega, by omega⟩, hV62, hF65, hT⟩ dX6_readHold_85
      · skip
        replace hT := hT.trans (if_neg (fun q => q c43))
        refine pm_iconst (v := 0) hC dX6_readHold_48 ?_
        exact pm_iret hC hR (pm_narZ (by omega)) ⟨0, rfl, ⟨by omega, by omega⟩, hV27, hF30, hT⟩ dX6_readHold_49
    · skip
      replace hT := hT.trans (if_neg c23)
      refine pm_iconst (v := 0) hC dX6_readHold_26 ?_
      exact pm_iret hC hR (pm_narZ (by omega)) ⟨0, rfl, ⟨by omega, by omega⟩, hV5, hF8, hT⟩ dX6_readHold_27
set_option maxHeartbeats 4000000 in
set_option maxRecDepth 100000 in
theorem fC_X6_readNumbers_51 (a1 a2 a3 a4 : Int) (h0 : 0 ≤ a1 ∧ a1 ≤ 60) (h1 : 0 ≤ a2 ∧ a2 ≤ 60) (h2 : 0 ≤ a3 ∧ a3 ≤ 99) (h3 : 0 ≤ a4 ∧ a4 ≤ 99) : pm_K 3 yX6_readNumbers cX6_readNumbers 5 (some .boolean) (fun av V => av = [(3, 69), (0, a1), (0, a2), (0, a3), (0, a4)] ∧ pm_ok 0 90 V ∧ (51 ≤ V 69 3 ∧ V 69 3 ≤ 51)) (fun _ V r V' => ∃ y, r = some (0, y) ∧ (0 ≤ y ∧ y ≤ 1 ∧ (y = 1 → a1 ≤ V' 69 5 ∧ V' 69 5 ≤ a2 ∧ a3 ≤ V' 69 6 ∧ V' 69 6 ≤ a4)) ∧ pm_ok 0 90 V' ∧ pm_fr [3, 69] V V' ∧ (51 ≤ V' 69 3 ∧ V' 69 3 ≤ 51) ∧ F_X6_readNumbers 51 a1 a2 a3 a4 V = (y, V')) := by
  refine pm_MT.of (by decide) ⟨Nat.le_refl _, by decide⟩ (fun av V h => by rw [h.1]; exact (by decide : pm_words [(3, 0), (0, 0), (0, 0), (0, 0), (0, 0)] ≤ 5)) ?_
  rintro X av V0 hC - hR ⟨rfl, hV0, hq0⟩
  change pm_J X 0 [(0, (3, 69)), (1, (0, a1)), (2, (0, a2)), (3, (0, a3)), (4, (0, a4))] [] 118 V0
  have hT := F_X6_readNumbers_eq 51 a1 a2 a3 a4 V0
  obtain ⟨z0, ez0⟩ : ∃ z, V0 69 3 = z := ⟨_, rfl⟩
  rw [ez0] at hq0
  have en0 : V0 69 3 = 51 := by rw [ez0]; omega
  refine pm_aload_n hC 0 (by decide) dX6_readNumbers_0 rfl ?_
  have e1 : V0 69 0 = 3 := hV0.one 69 0 (by decide) (by decide) rfl
  refine pm_getf (v := 3) hC 69 fl_X6_9 rfl rfl (by decide) rfl e1 dX6_readNumbers_1 ?_
  refine pm_callV (ci := 9) (as := []) (st := []) hC 3 fC_X9_step lm_X6_98 li_X9_step (by decide) (by decide) rfl rfl rfl (by decide) rfl rfl (Nat.le_of_ble_eq_true rfl) ⟨Nat.le_refl _, Or.inl rfl⟩ dX6_readNumbers_4 ⟨rfl, hV0⟩ (fun r2 V3 hp4 => ?_)
  obtain ⟨rfl, hV5, hF6, hE7⟩ := hp4
  replace hT := hT.trans (pf_call_eq hE7)
  change pm_J X 7 [(0, (3, 69)), (1, (0, a1)), (2, (0, a2)), (3, (0, a3)), (4, (0, a4))] [] 118 V3
  have hF8 := pm_fr.tr (pm_fr.rf (ws := [3, 69]) (V := V0)) hF6 (by decide)
  have e9 : V3 69 3 = 51 := by rw [hF6 69 (by decide)]; exact en0
  have e10 : V3 69 0 = 3 := by rw [hF6 69 (by decide)]; exact e1
  refine pm_aload_n hC 0 (by decide) dX6_readNumbers_7 rfl ?_
  refine pm_getf (v := 3) hC 69 fl_X6_9 rfl rfl (by decide) rfl e10 dX6_readNumbers_8 ?_
  refine pm_iload_n hC 1 dX6_readNumbers_11 rfl ?_
  refine pm_iload_n hC 2 dX6_readNumbers_12 rfl ?_
  obtain ⟨y11, e12⟩ : ∃ y, V3 3 3 = y := ⟨_, rfl⟩
  have b13 := hV5.get 3 3 (lo := (-9223372036854775808)) (hi := 9223372036854775807) (by decide) (by decide) rfl
  rw [e12] at b13
  replace hT := hT.trans (pf_let_eq e12)
  refine pm_callV (ci := 9) (as := [(0, a1), (0, a2)]) (st := []) hC 3 (fC_X9_isNumber a1 a2 ⟨by omega, by omega⟩ ⟨by omega, by omega⟩) lm_X6_112 li_X9_isNumber (by decide) (by decide) rfl rfl rfl (by decide) rfl rfl (Nat.le_of_ble_eq_true rfl) ⟨Nat.le_refl _, Or.inl rfl⟩ dX6_readNumbers_13 ⟨rfl, hV5⟩ (fun r14 V15 hp16 => ?_)
  obtain ⟨y17, rfl, b18, rfl, hE19⟩ := hp16
  replace hT := hT.trans (pf_call_eq hE19)
  change pm_J X 16 [(0, (3, 69)), (1, (0, a1)), (2, (0, a2)), (3, (0, a3)), (4, (0, a4))] [(0, y17)] 118 V3
  refine pm_if_ne (tgt := 21) hC ⟨by omega, by omega⟩ dX6_readNumbers_16 (by decide) (fun c20 => ?_) (fun c20 => ?_)
  · skip
    replace hT := hT.trans (if_pos c20)
    refine pm_aload_n hC 0 (by decide) dX6_readNumbers_21 rfl ?_
    refine pm_aload_n hC 0 (by decide) dX6_readNumbers_22 rfl ?_
    refine pm_getf (v := 3) hC 69 fl_X6_9 rfl rfl (by decide) rfl e10 dX6_readNumbers_23 ?_
    refine pm_getf (v := y11) hC 3 fl_X6_108 rfl rfl (by decide) rfl e12 dX6_readNumbers_26 ?_
    refine pm_l2i hC dX6_readNumbers_29 ?_
    refine pm_putf hC 69 fl_X6_31 rfl rfl rfl (by decide) rfl trivial dX6_readNumbers_30 ?_
    refine pm_aload_n hC 0 (by decide) dX6_readNumbers_33 rfl ?_
    refine pm_getf (v := 3) hC 69 fl_X6_9 rfl rfl (by decide) rfl e10 dX6_readNumbers_34 ?_
    refine pm_callV (ci := 9) (as := []) (st := []) hC 3 fC_X9_step lm_X6_98 li_X9_step (by decide) (by decide) rfl rfl rfl (by decide) rfl rfl (Nat.le_of_ble_eq_true rfl) ⟨Nat.le_refl _, Or.inl rfl⟩ dX6_readNumbers_37 ⟨rfl, (hV5.put 69 5 (x := y11) (lo := (-2147483648)) (hi := 2147483647) rfl ⟨by omega, by omega⟩)⟩ (fun r21 V22 hp23 => ?_)
    obtain ⟨rfl, hV24, hF25, hE26⟩ := hp23
    replace hT := hT.trans (pf_call_eq hE26)
    change pm_J X 40 [(0, (3, 69)), (1, (0, a1)), (2, (0, a2)), (3, (0, a3)), (4, (0, a4))] [] 118 V22
    have hF27 := pm_fr.tr (hF8.up 69 5 y11 rfl) hF25 (by decide)
    have e28 : V22 69 3 = 51 := by rw [hF25 69 (by decide)]; exact e9
    have e29 : V22 69 0 = 3 := by rw [hF25 69 (by decide)]; exact e10
    have e30 : V22 69 5 = y11 := by rw [hF25 69 (by decide)]; rfl
    refine pm_aload_n hC 0 (by decide) dX6_readNumbers_40 rfl ?_
    refine pm_getf (v := 3) hC 69 fl_X6_9 rfl rfl (by decide) rfl e29 dX6_readNumbers_41 ?_
    refine pm_iload_n hC 3 dX6_readNumbers_44 rfl ?_
    refine pm_iload hC 4 dX6_readNumbers_45 rfl ?_
    obtain ⟨y31, e32⟩ : ∃ y, V22 3 3 = y := ⟨_, rfl⟩
    have b33 := hV24.get 3 3 (lo := (-9223372036854775808)) (hi := 9223372036854775807) (by decide) (by decide) rfl
    rw [e32] at b33
    replace hT := hT.trans (pf_let_eq e32)
    refine pm_callV (ci := 9) (as := [(0, a3), (0, a4)]) (st := []) hC 3 (fC_X9_isNumber a3 a4 ⟨by omega, by omega⟩ ⟨by omega, by omega⟩) lm_X6_112 li_X9_isNumber (by decide) (by decide) rfl rfl rfl (by decide) rfl rfl (Nat.le_of_ble_eq_true rfl) ⟨Nat.le_refl _, Or.inl rfl⟩ dX6_readNumbers_47 ⟨rfl, hV24⟩ (fun r34 V35 hp36 => ?_)
    obtain ⟨y37, rfl, b38, rfl, hE39⟩ := hp36
    replace hT := hT.trans (pf_call_eq hE39)
    change pm_J X 50 [(0, (3, 69)), (1, (0, a1)), (2, (0, a2)), (3, (0, a3)), (4, (0, a4))] [(0, y37)] 118 V22
    refine pm_if_ne (tgt := 55) hC ⟨by omega, by omega⟩ dX6_readNumbers_50 (by decide) (fun c40 => ?_) (fun c40 => ?_)
    · skip
      replace hT := hT.trans (if_pos c40)
      refine pm_aload_n hC 0 (by decide) dX6_readNumbers_55 rfl ?_
      refine pm_aload_n hC 0 (by decide) dX6_readNumbers_56 rfl ?_
      refine pm_getf (v := 3) hC 69 fl_X6_9 rfl rfl (by decide) rfl e29 dX6_readNumbers_57 ?_
      refine pm_getf (v := y31) hC 3 fl_X6_108 rfl rfl (by decide) rfl e32 dX6_readNumbers_60 ?_
      refine pm_l2i hC dX6_readNumbers_63 ?_
      refine pm_putf hC 69 fl_X6_35 rfl rfl rfl (by decide) rfl trivial dX6_readNumbers_64 ?_
      refine pm_aload_n hC 0 (by decide) dX6_readNumbers_67 rfl ?_
      refine pm_getf (v := 3) hC 69 fl_X6_9 rfl rfl (by decide) rfl e29 dX6_readNumbers_68 ?_
      refine pm_callV (ci := 9) (as := []) (st := []) hC 3 fC_X9_step lm_X6_98 li_X9_step (by decide) (by decide) rfl rfl rfl (by decide) rfl rfl (Nat.le_of_ble_eq_true rfl) ⟨Nat.le_refl _, Or.inl rfl⟩ dX6_readNumbers_71 ⟨rfl, (hV24.put 69 6 (x := y31) (lo := (-2147483648)) (hi := 2147483647) rfl ⟨by omega, by omega⟩)⟩ (fun r41 V42 hp43 => ?_)
      obtain ⟨rfl, hV44, hF45, hE46⟩ := hp43
      replace hT := hT.trans (pf_call_eq hE46)
      change pm_J X 74 [(0, (3, 69)), (1, (0, a1)), (2, (0, a2)), (3, (0, a3)), (4, (0, a4))] [] 118 V42
      have hF47 := pm_fr.tr (hF27.up 69 6 y31 rfl) hF45 (by decide)
      have e48 : V42 69 3 = 51 := by rw [hF45 69 (by decide)]; exact e28
      have e49 : V42 69 0 = 3 := by rw [hF45 69 (by decide)]; exact e29
      have e50 : V42 69 5 = y11 := by rw [hF45 69 (by decide)]; exact e30
      have e51 : V42 69 6 = y31 := by rw [hF45 69 (by decide)]; rfl
      refine pm_iconst (v := 1) hC dX6_readNumbers_74 ?_
      have q52 : 51 ≤ V42 69 3 ∧ V42 69 3 ≤ 51 := by (have e : V42 69 3 = 51 := e48); rw [e]; exact ⟨by decide, by decide⟩
      exact pm_iret hC hR (pm_narZ (by omega)) ⟨1, rfl, ⟨by omega, by omega, by omega⟩, hV44, hF47, q52, hT⟩ dX6_readNumbers_75
    · skip
      replace hT := hT.trans (if_neg (fun q => q c40))
      refine pm_iconst (v := 0) hC dX6_readNumbers_53 ?_
      have q53 : 51 ≤ V22 69 3 ∧ V22 69 3 ≤ 51 := by (have e : V22 69 3 = 51 := e28); rw [e]; exact ⟨by decide, by decide⟩
      exact pm_iret hC hR (pm_narZ (by omega)) ⟨0, rfl, ⟨by omega, by omega, by omega⟩, hV24, hF27, q53, hT⟩ dX6_readNumbers_54
  · skip
    replace hT := hT.trans (if_neg (fun q => q c20))
    refine pm_iconst (v := 0) hC dX6_readNumbers_19 ?_
    have q54 : 51 ≤ V3 69 3 ∧ V3 69 3 ≤ 51 := by (have e : V3 69 3 = 51 := e9); rw [e]; exact ⟨by decide, by decide⟩
    exact pm_iret hC hR (pm_narZ (by omega)) ⟨0, rfl, ⟨by omega, by omega, by omega⟩, hV5, hF8, q54, hT⟩ dX6_readNumbers_20
set_option maxHeartbeats 4000000 in
set_option maxRecDepth 100000 in
theorem fC_X6_readOdds_51  : pm_K 4 yX6_readOdds cX6_readOdds 1 (some .boolean) (fun av V => av = [(3, 69)] ∧ pm_ok 0 90 V ∧ (51 ≤ V 69 3 ∧ V 69 3 ≤ 51)) (fun _ V r V' => ∃ y, r = some (0, y) ∧ (0 ≤ y ∧ y ≤ 1) ∧ pm_ok 0 90 V' ∧ pm_fr [3, 51, 69] V V' ∧ (51 ≤ V' 69 3 ∧ V' 69 3 ≤ 51) ∧ F_X6_readOdds 51 V = (y, V')) := by
  refine pm_MT.of (by decide) ⟨Nat.le_refl _, by decide⟩ (fun av V h => by rw [h.1]; exact (by decide : pm_words [(3, 0)] ≤ 1)) ?_
  rintro X av V0 hC - hR ⟨rfl, hV0, hq0⟩
  change pm_J X 0 [(0, (3, 69))] [] 118 V0
  have hT := F_X6_readOdds_eq 51 V0
  obtain ⟨z0, ez0⟩ : ∃ z, V0 69 3 = z := ⟨_, rfl⟩
  rw [ez0] at hq0
  have en0 : V0 69 3 = 51 := by rw [ez0]; omega
  refine pm_aload_n hC 0 (by decide) dX6_readOdds_0 rfl ?_
  obtain ⟨y1, e2⟩ : ∃ y, V0 69 4 = y := ⟨_, rfl⟩
  have b3 := hV0.get 69 4 (lo := 0) (hi := 1) (by decide) (by decide) rfl
  rw [e2] at b3
  replace hT := hT.trans (pf_let_eq e2)
  refine pm_getf (v := y1) hC 69 fl_X6_27 rfl rfl (by decide) rfl e2 dX6_readOdds_1 ?_
  refine pm_if_ne (tgt := 20) hC ⟨by omega, by omega⟩ dX6_readOdds_4 (by decide) (fun c4 => ?_) (fun c4 => ?_)
  · skip
    replace hT := hT.trans (if_pos c4)
    refine pm_iconst (v := 0) hC dX6_readOdds_20 ?_
    have q5 : 51 ≤ V0 69 3 ∧ V0 69 3 ≤ 51 := by (have e : V0 69 3 = 51 := en0); rw [e]; exact ⟨by decide, by decide⟩
    exact pm_iret hC hR (pm_narZ (by omega)) ⟨0, rfl, ⟨by omega, by omega⟩, hV0, (pm_fr.rf (ws := [3, 51, 69]) (V := V0)), q5, hT⟩ dX6_readOdds_21
  · skip
    replace hT := hT.trans (if_neg (fun q => q c4))
    refine pm_aload_n hC 0 (by decide) dX6_readOdds_7 rfl ?_
    refine pm_iconst (v := 0) hC dX6_readOdds_8 ?_
    refine pm_bipush (v := 16) hC dX6_readOdds_9 (by decide) ?_
    refine pm_iconst (v := 1) hC dX6_readOdds_11 ?_
    refine pm_bipush (v := 99) hC dX6_readOdds_12 (by decide) ?_
    have q9 : 51 ≤ V0 69 3 ∧ V0 69 3 ≤ 51 := by (have e : V0 69 3 = 51 := en0); rw [e]; exact ⟨by decide, by decide⟩
    refine pm_callV (ci := 6) (as := [(0, 0), (0, 16), (0, 1), (0, 99)]) (st := []) hC 69 (fC_X6_readNumbers_51 0 16 1 99 ⟨by decide, by decide⟩ ⟨by decide, by decide⟩ ⟨by decide, by decide⟩ ⟨by decide, by decide⟩) lm_X6_135 li_X6_readNumbers (by decide) (by decide) rfl rfl rfl (by decide) rfl rfl (Nat.le_of_ble_eq_true rfl) ⟨Nat.le_refl _, Or.inl rfl⟩ dX6_readOdds_14 ⟨rfl, hV0, q9⟩ (fun r6 V7 hp8 => ?_)
    obtain ⟨y10, rfl, b11, hV12, hF13, hq14, hE15⟩ := hp8
    replace hT := hT.trans (pf_call_eq hE15)
    change pm_J X 17 [(0, (3, 69))] [(0, y10)] 118 V7
    have hF16 := pm_fr.tr (pm_fr.rf (ws := [3, 51, 69]) (V := V0)) hF13 (by decide)
    obtain ⟨z17, ez18⟩ : ∃ z, V7 69 3 = z := ⟨_, rfl⟩
    rw [ez18] at hq14
    have ez18n : V7 69 3 = 51 := by rw [ez18]; omega
    obtain ⟨y19, e20⟩ : ∃ y, V7 69 5 = y := ⟨_, rfl⟩
    have b21 := hV12.get 69 5 (lo := (-2147483648)) (hi := 2147483647) (by decide) (by decide) rfl
    rw [e20] at b21
    replace hT := hT.trans (pf_let_eq e20)
    obtain ⟨y22, e23⟩ : ∃ y, V7 69 6 = y := ⟨_, rfl⟩
    have b24 := hV12.get 69 6 (lo := (-2147483648)) (hi := 2147483647) (by decide) (by decide) rfl
    rw [e23] at b24
    replace hT := hT.trans (pf_let_eq e23)
    refine pm_if_ne (tgt := 22) hC ⟨by omega, by omega⟩ dX6_readOdds_17 (by decide) (fun c25 => ?_) (fun c25 => ?_)
    · skip
      replace hT := hT.trans (if_pos c25)
      refine pm_aload_n hC 0 (by decide) dX6_readOdds_22 rfl ?_
      refine pm_iconst (v := 1) hC dX6_readOdds_23 ?_
      refine pm_putf hC 69 fl_X6_27 rfl rfl rfl (by decide) rfl (by show _ = (0 : Int) ∨ _ = (1 : Int); omega) dX6_readOdds_24 ?_
      refine pm_aload_n hC 0 (by decide) dX6_readOdds_27 rfl ?_
      refine pm_getf (v := 51) hC 69 fl_X6_23 rfl rfl (by decide) rfl ez18n dX6_readOdds_28 ?_
      refine pm_aload_n hC 0 (by decide) dX6_readOdds_31 rfl ?_
      refine pm_getf (v := y19) hC 69 fl_X6_31 rfl rfl (by decide) rfl e20 dX6_readOdds_32 ?_
      refine pm_putf hC 51 fl_X6_148 rfl rfl rfl (by decide) rfl trivial dX6_readOdds_35 ?_
      refine pm_aload_n hC 0 (by decide) dX6_readOdds_38 rfl ?_
      refine pm_getf (v := 51) hC 69 fl_X6_23 rfl rfl (by decide) rfl ez18n dX6_readOdds_39 ?_
      refine pm_aload_n hC 0 (by decide) dX6_readOdds_42 rfl ?_
      refine pm_getf (v := y22) hC 69 fl_X6_35 rfl rfl (by decide) rfl e23 dX6_readOdds_43 ?_
      refine pm_putf hC 51 fl_X6_151 rfl rfl rfl (by decide) rfl trivial dX6_readOdds_46 ?_
      refine pm_aload_n hC 0 (by decide) dX6_readOdds_49 rfl ?_
      have q29 : 51 ≤ (pm_up (pm_up (pm_up V7 69 4 1) 51 8 y19) 51 9 y22) 69 3 ∧ (pm_up (pm_up (pm_up V7 69 4 1) 51 8 y19) 51 9 y22) 69 3 ≤ 51 := by (have e : (pm_up (pm_up (pm_up V7 69 4 1) 51 8 y19) 51 9 y22) 69 3 = 51 := ez18n); rw [e]; exact ⟨by decide, by decide⟩
      refine pm_callV (ci := 6) (as := []) (st := []) hC 69 fC_X6_closes_51 lm_X6_129 li_X6_closes (by decide) (by decide) rfl rfl rfl (by decide) rfl rfl (Nat.le_of_ble_eq_true rfl) ⟨Nat.le_refl _, Or.inl rfl⟩ dX6_readOdds_50 ⟨rfl, (((hV12.put 69 4 (x := 1) (lo := 0) (hi := 1) rfl ⟨by decide, by decide⟩).put 51 8 (x := y19) (lo := 0) (hi := 16) rfl ⟨by omega, by omega⟩).put 51 9 (x := y22) (lo := 0) (hi := 99) rfl ⟨by omega, by omega⟩), q29⟩ (fun r26 V27 hp28 => ?_)
      obtain ⟨y30, rfl, b31, hV32, hF33, hE34⟩ := hp28
      replace hT := hT.trans (pf_call_eq hE34)
      change pm_J X 53 [(0, (3, 69))] [(0, y30)] 118 V27
      have hF35 := pm_fr.tr (((hF16.up 69 4 1 rfl).up 51 8 y19 rfl).up 51 9 y22 rfl) hF33 (by decide)
      have e36 : V27 69 3 = 51 := by rw [hF33 69 (by decide)]; exact ez18n
      have e37 : V27 69 5 = y19 := by rw [hF33 69 (by decide)]; exact e20
      have e38 : V27 69 6 = y22 := by rw [hF33 69 (by decide)]; exact e23
      have e39 : V27 69 4 = 1 := by rw [hF33 69 (by decide)]; rfl
      have e40 : V27 51 8 = y19 := by rw [hF33 51 (by decide)]; rfl
      have e41 : V27 51 9 = y22 := by rw [hF33 51 (by decide)]; rfl
      have q42 : 51 ≤ V27 69 3 ∧ V27 69 3 ≤ 51 := by (have e : V27 69 3 = 51 := e36); rw [e]; exact ⟨by decide, by decide⟩
      exact pm_iret hC hR (pm_narZ (by omega)) ⟨y30, rfl, ⟨by omega, by omega⟩, hV32, hF35, q42, hT⟩ dX6_readOdds_53
    · skip
      replace hT := hT.trans (if_neg (fun q => q c25))
      refine pm_iconst (v := 0) hC dX6_readOdds_20 ?_
      have q43 : 51 ≤ V7 69 3 ∧ V7 69 3 ≤ 51 := by (have e : V7 69 3 = 51 := ez18n); rw [e]; exact ⟨by decide, by decide⟩
      exact pm_iret hC hR (pm_narZ (by omega)) ⟨0, rfl, ⟨by omega, by omega⟩, hV12, hF16, q43, hT⟩ dX6_readOdds_21
set_option maxHeartbeats 4000000 in
set_option maxRecDepth 100000 in
theorem fC_X6_readFace_51  : pm_K 4 yX6_readFace cX6_readFace 1 (some .boolean) (fun av V => av = [(3, 69)] ∧ pm_ok 0 90 V ∧ (51 ≤ V 69 3 ∧ V 69 3 ≤ 51)) (fun _ V r V' => ∃ y, r = some (0, y) ∧ (0 ≤ y ∧ y ≤ 1) ∧ pm_ok 0 90 V' ∧ pm_fr [3, 51, 69] V V' ∧ (51 ≤ V' 69 3 ∧ V' 69 3 ≤ 51) ∧ F_X6_readFace 51 V = (y, V')) := by
  refine pm_MT.of (by decide) ⟨Nat.le_refl _, by decide⟩ (fun av V h => by rw [h.1]; exact (by decide : pm_words [(3, 0)] ≤ 1)) ?_
  rintro X av V0 hC - hR ⟨rfl, hV0, hq0⟩
  change pm_J X 0 [(0, (3, 69))] [] 118 V0
  have hT := F_X6_readFace_eq 51 V0
  obtain ⟨z0, ez0⟩ : ∃ z, V0 69 3 = z := ⟨_, rfl⟩
  rw [ez0] at hq0
  have en0 : V0 69 3 = 51 := by rw [ez0]; omega
  refine pm_aload_n hC 0 (by decide) dX6_readFace_0 rfl ?_
  refine pm_getf (v := 51) hC 69 fl_X6_23 rfl rfl (by decide) rfl en0 dX6_readFace_1 ?_
  obtain ⟨y1, e2⟩ : ∃ y, V0 51 6 = y := ⟨_, rfl⟩
  have b3 := hV0.get 51 6 (lo := 0) (hi := 60) (by decide) (by decide) rfl
  rw [e2] at b3
  replace hT := hT.trans (pf_let_eq e2)
  refine pm_getf (v := y1) hC 51 fl_X6_142 rfl rfl (by decide) rfl e2 dX6_readFace_4 ?_
  refine pm_if_gt (tgt := 23) hC ⟨by omega, by omega⟩ dX6_readFace_7 (by decide) (fun c4 => ?_) (fun c4 => ?_)
  · skip
    replace hT := hT.trans (if_pos c4)
    refine pm_iconst (v := 0) hC dX6_readFace_23 ?_
    have q5 : 51 ≤ V0 69 3 ∧ V0 69 3 ≤ 51 := by (have e : V0 69 3 = 51 := en0); rw [e]; exact ⟨by decide, by decide⟩
    exact pm_iret hC hR (pm_narZ (by omega)) ⟨0, rfl, ⟨by omega, by omega⟩, hV0, (pm_fr.rf (ws := [3, 51, 69]) (V := V0)), q5, hT⟩ dX6_readFace_24
  · skip
    replace hT := hT.trans (if_neg (Int.not_lt.mpr c4))
    refine pm_aload_n hC 0 (by decide) dX6_readFace_10 rfl ?_
    refine pm_iconst (v := 1) hC dX6_readFace_11 ?_
    refine pm_bipush (v := 60) hC dX6_readFace_12 (by decide) ?_
    refine pm_iconst (v := 0) hC dX6_readFace_14 ?_
    refine pm_bipush (v := 9) hC dX6_readFace_15 (by decide) ?_
    have q9 : 51 ≤ V0 69 3 ∧ V0 69 3 ≤ 51 := by (have e : V0 69 3 = 51 := en0); rw [e]; exact ⟨by decide, by decide⟩
    refine pm_callV (ci := 6) (as := [(0, 1), (0, 60), (0, 0), (0, 9)]) (st := []) hC 69 (fC_X6_readNumbers_51 1 60 0 9 ⟨by decide, by decide⟩ ⟨by decide, by decide⟩ ⟨by decide, by decide⟩ ⟨by decide, by decide⟩) lm_X6_135 li_X6_readNumbers (by decide) (by decide) rfl rfl rfl (by decide) rfl rfl (Nat.le_of_ble_eq_true rfl) ⟨Nat.le_refl _, Or.inl rfl⟩ dX6_readFace_17 ⟨rfl, hV0, q9⟩ (fun r6 V7 hp8 => ?_)
    obtain ⟨y10, rfl, b11, hV12, hF13, hq14, hE15⟩ := hp8
    replace hT := hT.trans (pf_call_eq hE15)
    change pm_J X 20 [(0, (3, 69))] [(0, y10)] 118 V7
    have hF16 := pm_fr.tr (pm_fr.rf (ws := [3, 51, 69]) (V := V0)) hF13 (by decide)
    have e17 : V7 51 6 = y1 := by rw [hF13 51 (by decide)]; exact e2
    obtain ⟨z18, ez19⟩ : ∃ z, V7 69 3 = z := ⟨_, rfl⟩
    rw [ez19] at hq14
    have ez19n : V7 69 3 = 51 := by rw [ez19]; omega
    obtain ⟨y20, e21⟩ : ∃ y, V7 69 5 = y := ⟨_, rfl⟩
    have b22 := hV12.get 69 5 (lo := (-2147483648)) (hi := 2147483647) (by decide) (by decide) rfl
    rw [e21] at b22
    replace hT := hT.trans (pf_let_eq e21)
    obtain ⟨y23, e24⟩ : ∃ y, V7 69 6 = y := ⟨_, rfl⟩
    have b25 := hV12.get 69 6 (lo := (-2147483648)) (hi := 2147483647) (by decide) (by decide) rfl
    rw [e24] at b25
    replace hT := hT.trans (pf_let_eq e24)
    refine pm_if_ne (tgt := 25) hC ⟨by omega, by omega⟩ dX6_readFace_20 (by decide) (fun c26 => ?_) (fun c26 => ?_)
    · skip
      replace hT := hT.trans (if_pos c26)
      refine pm_aload_n hC 0 (by decide) dX6_readFace_25 rfl ?_
      refine pm_getf (v := 51) hC 69 fl_X6_23 rfl rfl (by decide) rfl ez19n dX6_readFace_26 ?_
      refine pm_aload_n hC 0 (by decide) dX6_readFace_29 rfl ?_
      refine pm_getf (v := y20) hC 69 fl_X6_31 rfl rfl (by decide) rfl e21 dX6_readFace_30 ?_
      refine pm_putf hC 51 fl_X6_142 rfl rfl rfl (by decide) rfl trivial dX6_readFace_33 ?_
      refine pm_aload_n hC 0 (by decide) dX6_readFace_36 rfl ?_
      refine pm_getf (v := 51) hC 69 fl_X6_23 rfl rfl (by decide) rfl ez19n dX6_readFace_37 ?_
      refine pm_aload_n hC 0 (by decide) dX6_readFace_40 rfl ?_
      refine pm_getf (v := y23) hC 69 fl_X6_35 rfl rfl (by decide) rfl e24 dX6_readFace_41 ?_
      refine pm_putf hC 51 fl_X6_145 rfl rfl rfl (by decide) rfl trivial dX6_readFace_44 ?_
      refine pm_aload_n hC 0 (by decide) dX6_readFace_47 rfl ?_
      have q30 : 51 ≤ (pm_up (pm_up V7 51 6 y20) 51 7 y23) 69 3 ∧ (pm_up (pm_up V7 51 6 y20) 51 7 y23) 69 3 ≤ 51 := by (have e : (pm_up (pm_up V7 51 6 y20) 51 7 y23) 69 3 = 51 := ez19n); rw [e]; exact ⟨by decide, by decide⟩
      refine pm_callV (ci := 6) (as := []) (st := []) hC 69 fC_X6_closes_51 lm_X6_129 li_X6_closes (by decide) (by decide) rfl rfl rfl (by decide) rfl rfl (Nat.le_of_ble_eq_true rfl) ⟨Nat.le_refl _, Or.inl rfl⟩ dX6_readFace_48 ⟨rfl, ((hV12.put 51 6 (x := y20) (lo := 0) (hi := 60) rfl ⟨by omega, by omega⟩).put 51 7 (x := y23) (lo := 0) (hi := 9) rfl ⟨by omega, by omega⟩), q30⟩ (fun r27 V28 hp29 => ?_)
      obtain ⟨y31, rfl, b32, hV33, hF34, hE35⟩ := hp29
      replace hT := hT.trans (pf_call_eq hE35)
      change pm_J X 51 [(0, (3, 69))] [(0, y31)] 118 V28
      have hF36 := pm_fr.tr ((hF16.up 51 6 y20 rfl).up 51 7 y23 rfl) hF34 (by decide)
      have e37 : V28 69 3 = 51 := by rw [hF34 69 (by decide)]; exact ez19n
      have e38 : V28 69 5 = y20 := by rw [hF34 69 (by decide)]; exact e21
      have e39 : V28 69 6 = y23 := by rw [hF34 69 (by decide)]; exact e24
      have e40 : V28 51 6 = y20 := by rw [hF34 51 (by decide)]; rfl
      have e41 : V28 51 7 = y23 := by rw [hF34 51 (by decide)]; rfl
      have q42 : 51 ≤ V28 69 3 ∧ V28 69 3 ≤ 51 := by (have e : V28 69 3 = 51 := e37); rw [e]; exact ⟨by decide, by decide⟩
      exact pm_iret hC hR (pm_narZ (by omega)) ⟨y31, rfl, ⟨by omega, by omega⟩, hV33, hF36, q42, hT⟩ dX6_readFace_51
    · skip
      replace hT := hT.trans (if_neg (fun q => q c26))
      refine pm_iconst (v := 0) hC dX6_readFace_23 ?_
      have q43 : 51 ≤ V7 69 3 ∧ V7 69 3 ≤ 51 := by (have e : V7 69 3 = 51 := ez19n); rw [e]; exact ⟨by decide, by decide⟩
      exact pm_iret hC hR (pm_narZ (by omega)) ⟨0, rfl, ⟨by omega, by omega⟩, hV12, hF16, q43, hT⟩ dX6_readFace_24
set_option maxHeartbeats 4000000 in
set_option maxRecDepth 100000 in
theorem fC_X6_readVoice_51  : pm_K 4 yX6_readVoice cX6_readVoice 1 (some .boolean) (fun av V => av = [(3, 69)] ∧ pm_ok 0 90 V ∧ (51 ≤ V 69 3 ∧ V 69 3 ≤ 51)) (fun _ V r V' => ∃ y, r = some (0, y) ∧ (0 ≤ y ∧ y ≤ 1) ∧ pm_ok 0 90 V' ∧ pm_fr [3, 51, 69] V V' ∧ (51 ≤ V' 69 3 ∧ V' 69 3 ≤ 51) ∧ F_X6_readVoice 51 V = (y, V')) := by
  refine pm_MT.of (by decide) ⟨Nat.le_refl _, by decide⟩ (fun av V h => by rw [h.1]; exact (by decide : pm_words [(3, 0)] ≤ 1)) ?_
  rintro X av V0 hC - hR ⟨rfl, hV0, hq0⟩
  change pm_J X 0 [(0, (3, 69))] [] 118 V0
  have hT := F_X6_readVoice_eq 51 V0
  obtain ⟨z0, ez0⟩ : ∃ z, V0 69 3 = z := ⟨_, rfl⟩
  rw [ez0] at hq0
  have en0 : V0 69 3 = 51 := by rw [ez0]; omega
  refine pm_aload_n hC 0 (by decide) dX6_readVoice_0 rfl ?_
  refine pm_getf (v := 51) hC 69 fl_X6_23 rfl rfl (by decide) rfl en0 dX6_readVoice_1 ?_
  obtain ⟨y1, e2⟩ : ∃ y, V0 51 4 = y := ⟨_, rfl⟩
  have b3 := hV0.get 51 4 (lo := 0) (hi := 60) (by decide) (by decide) rfl
  rw [e2] at b3
  replace hT := hT.trans (pf_let_eq e2)
  refine pm_getf (v := y1) hC 51 fl_X6_132 rfl rfl (by decide) rfl e2 dX6_readVoice_4 ?_
  refine pm_if_gt (tgt := 23) hC ⟨by omega, by omega⟩ dX6_readVoice_7 (by decide) (fun c4 => ?_) (fun c4 => ?_)
  · skip
    replace hT := hT.trans (if_pos c4)
    refine pm_iconst (v := 0) hC dX6_readVoice_23 ?_
    have q5 : 51 ≤ V0 69 3 ∧ V0 69 3 ≤ 51 := by (have e : V0 69 3 = 51 := en0); rw [e]; exact ⟨by decide, by decide⟩
    exact pm_iret hC hR (pm_narZ (by omega)) ⟨0, rfl, ⟨by omega, by omega⟩, hV0, (pm_fr.rf (ws := [3, 51, 69]) (V := V0)), q5, hT⟩ dX6_readVoice_24
  · skip
    replace hT := hT.trans (if_neg (Int.not_lt.mpr c4))
    refine pm_aload_n hC 0 (by decide) dX6_readVoice_10 rfl ?_
    refine pm_iconst (v := 1) hC dX6_readVoice_11 ?_
    refine pm_bipush (v := 60) hC dX6_readVoice_12 (by decide) ?_
    refine pm_iconst (v := 0) hC dX6_readVoice_14 ?_
    refine pm_bipush (v := 9) hC dX6_readVoice_15 (by decide) ?_
    have q9 : 51 ≤ V0 69 3 ∧ V0 69 3 ≤ 51 := by (have e : V0 69 3 = 51 := en0); rw [e]; exact ⟨by decide, by decide⟩
    refine pm_callV (ci := 6) (as := [(0, 1), (0, 60), (0, 0), (0, 9)]) (st := []) hC 69 (fC_X6_readNumbers_51 1 60 0 9 ⟨by decide, by decide⟩ ⟨by decide, by decide⟩ ⟨by decide, by decide⟩ ⟨by decide, by decide⟩) lm_X6_135 li_X6_readNumbers (by decide) (by decide) rfl rfl rfl (by decide) rfl rfl (Nat.le_of_ble_eq_true rfl) ⟨Nat.le_refl _, Or.inl rfl⟩ dX6_readVoice_17 ⟨rfl, hV0, q9⟩ (fun r6 V7 hp8 => ?_)
    obtain ⟨y10, rfl, b11, hV12, hF13, hq14, hE15⟩ := hp8
    replace hT := hT.trans (pf_call_eq hE15)
    change pm_J X 20 [(0, (3, 69))] [(0, y10)] 118 V7
    have hF16 := pm_fr.tr (pm_fr.rf (ws := [3, 51, 69]) (V := V0)) hF13 (by decide)
    have e17 : V7 51 4 = y1 := by rw [hF13 51 (by decide)]; exact e2
    obtain ⟨z18, ez19⟩ : ∃ z, V7 69 3 = z := ⟨_, rfl⟩
    rw [ez19] at hq14
    have ez19n : V7 69 3 = 51 := by rw [ez19]; omega
    obtain ⟨y20, e21⟩ : ∃ y, V7 69 5 = y := ⟨_, rfl⟩
    have b22 := hV12.get 69 5 (lo := (-2147483648)) (hi := 2147483647) (by decide) (by decide) rfl
    rw [e21] at b22
    replace hT := hT.trans (pf_let_eq e21)
    obtain ⟨y23, e24⟩ : ∃ y, V7 69 6 = y := ⟨_, rfl⟩
    have b25 := hV12.get 69 6 (lo := (-2147483648)) (hi := 2147483647) (by decide) (by decide) rfl
    rw [e24] at b25
    replace hT := hT.trans (pf_let_eq e24)
    refine pm_if_ne (tgt := 25) hC ⟨by omega, by omega⟩ dX6_readVoice_20 (by decide) (fun c26 => ?_) (fun c26 => ?_)
    · skip
      replace hT := hT.trans (if_pos c26)
      refine pm_aload_n hC 0 (by decide) dX6_readVoice_25 rfl ?_
      refine pm_getf (v := 51) hC 69 fl_X6_23 rfl rfl (by decide) rfl ez19n dX6_readVoice_26 ?_
      refine pm_aload_n hC 0 (by decide) dX6_readVoice_29 rfl ?_
      refine pm_getf (v := y20) hC 69 fl_X6_31 rfl rfl (by decide) rfl e21 dX6_readVoice_30 ?_
      refine pm_putf hC 51 fl_X6_132 rfl rfl rfl (by decide) rfl trivial dX6_readVoice_33 ?_
      refine pm_aload_n hC 0 (by decide) dX6_readVoice_36 rfl ?_
      refine pm_getf (v := 51) hC 69 fl_X6_23 rfl rfl (by decide) rfl ez19n dX6_readVoice_37 ?_
      refine pm_aload_n hC 0 (by decide) dX6_readVoice_40 rfl ?_
      refine pm_getf (v := y23) hC 69 fl_X6_35 rfl rfl (by decide) rfl e24 dX6_readVoice_41 ?_
      refine pm_putf hC 51 fl_X6_139 rfl rfl rfl (by decide) rfl trivial dX6_readVoice_44 ?_
      refine pm_aload_n hC 0 (by decide) dX6_readVoice_47 rfl ?_
      have q30 : 51 ≤ (pm_up (pm_up V7 51 4 y20) 51 5 y23) 69 3 ∧ (pm_up (pm_up V7 51 4 y20) 51 5 y23) 69 3 ≤ 51 := by (have e : (pm_up (pm_up V7 51 4 y20) 51 5 y23) 69 3 = 51 := ez19n); rw [e]; exact ⟨by decide, by decide⟩
      refine pm_callV (ci := 6) (as := []) (st := []) hC 69 fC_X6_closes_51 lm_X6_129 li_X6_closes (by decide) (by decide) rfl rfl rfl (by decide) rfl rfl (Nat.le_of_ble_eq_true rfl) ⟨Nat.le_refl _, Or.inl rfl⟩ dX6_readVoice_48 ⟨rfl, ((hV12.put 51 4 (x := y20) (lo := 0) (hi := 60) rfl ⟨by omega, by omega⟩).put 51 5 (x := y23) (lo := 0) (hi := 9) rfl ⟨by omega, by omega⟩), q30⟩ (fun r27 V28 hp29 => ?_)
      obtain ⟨y31, rfl, b32, hV33, hF34, hE35⟩ := hp29
      replace hT := hT.trans (pf_call_eq hE35)
      change pm_J X 51 [(0, (3, 69))] [(0, y31)] 118 V28
      have hF36 := pm_fr.tr ((hF16.up 51 4 y20 rfl).up 51 5 y23 rfl) hF34 (by decide)
      have e37 : V28 69 3 = 51 := by rw [hF34 69 (by decide)]; exact ez19n
      have e38 : V28 69 5 = y20 := by rw [hF34 69 (by decide)]; exact e21
      have e39 : V28 69 6 = y23 := by rw [hF34 69 (by decide)]; exact e24
      have e40 : V28 51 4 = y20 := by rw [hF34 51 (by decide)]; rfl
      have e41 : V28 51 5 = y23 := by rw [hF34 51 (by decide)]; rfl
      have q42 : 51 ≤ V28 69 3 ∧ V28 69 3 ≤ 51 := by (have e : V28 69 3 = 51 := e37); rw [e]; exact ⟨by decide, by decide⟩
      exact pm_iret hC hR (pm_narZ (by omega)) ⟨y31, rfl, ⟨by omega, by omega⟩, hV33, hF36, q42, hT⟩ dX6_readVoice_51
    · skip
      replace hT := hT.trans (if_neg (fun q => q c26))
      refine pm_iconst (v := 0) hC dX6_readVoice_23 ?_
      have q43 : 51 ≤ V7 69 3 ∧ V7 69 3 ≤ 51 := by (have e : V7 69 3 = 51 := ez19n); rw [e]; exact ⟨by decide, by decide⟩
      exact pm_iret hC hR (pm_narZ (by omega)) ⟨0, rfl, ⟨by omega, by omega⟩, hV12, hF16, q43, hT⟩ dX6_readVoice_24
set_option maxHeartbeats 4000000 in
set_option maxRecDepth 100000 in
theorem fC_X5_isTaken_51 (a1 a2 : Int) (h0 : 0 ≤ a1 ∧ a1 ≤ 99) (h1 : 0 ≤ a2 ∧ a2 ≤ 99) : pm_K 1 yX5_isTaken cX5_isTaken 4 (some .boolean) (fun av V => av = [(3, 51), (0, a1), (0, a2)] ∧ pm_ok 0 90 V) (fun _ V r V' => ∃ y, r = some (0, y) ∧ (0 ≤ y ∧ y ≤ 1) ∧ V = V' ∧ F_X5_isTaken 51 a1 a2 V = (y, V)) := by
  refine pm_MT.of (by decide) ⟨Nat.le_refl _, by decide⟩ (fun av V h => by rw [h.1]; exact (by decide : pm_words [(3, 0), (0, 0), (0, 0)] ≤ 4)) ?_
  rintro X av V0 hC - hR ⟨rfl, hV0⟩
  change pm_J X 0 [(0, (3, 51)), (1, (0, a1)), (2, (0, a2))] [] 118 V0
  have hT := F_X5_isTaken_eq 51 a1 a2 V0
  refine pm_iconst (v := 0) hC dX5_isTaken_0 ?_
  refine pm_istore_n (lv' := [(3, (0, 0)), (0, (3, 51)), (1, (0, a1)), (2, (0, a2))]) hC dX5_isTaken_1 (by decide) rfl ?_
  obtain ⟨B3, hB4, hT⟩ := pf_loop hT
  have L6 : ∀ (N8 : Nat) (x1 : Int), (0 ≤ x1 ∧ x1 ≤ 9) → F_X5_isTaken 51 a1 a2 V0 = pf_val ((0 : Int), V0) B3 x1 → (Int.toNat (9 - x1)) = N8 → pm_J X 2 [(0, (3, 51)), (1, (0, a1)), (2, (0, a2)), (3, (0, x1))] [] 118 V0 := by
    intro N8
    induction N8 using Nat.strongRecOn with
    | _ N8 ih9 =>
    intro x1 b2 hT hm7
    have hb5 := congrFun hB4 x1
    refine pm_iload_n hC 3 dX5_isTaken_2 rfl ?_
    refine pm_aload_n hC 0 (by decide) dX5_isTaken_3 rfl ?_
    obtain ⟨y10, e11⟩ : ∃ y, V0 51 0 = y := ⟨_, rfl⟩
    have b12 := hV0.get 51 0 (lo := 0) (hi := 9) (by decide) (by decide) rfl
    rw [e11] at b12
    replace hb5 := hb5.trans (pf_let_eq e11)
    refine pm_getf (v := y10) hC 51 fl_X5_27 rfl rfl (by decide) rfl e11 dX5_isTaken_4 ?_
    refine pm_icmp_ge (tgt := 38) hC ⟨by omega, by omega⟩ ⟨by omega, by omega⟩ dX5_isTaken_7 (by decide) (fun c13 => ?_) (fun c13 => ?_)
    · skip
      replace hb5 := hb5.trans (if_pos c13)
      refine pm_iconst (v := 0) hC dX5_isTaken_38 ?_
      have hT := hT.trans (pf_val_inr hb5)
      exact pm_iret hC hR (pm_narZ (by omega)) ⟨0, rfl, ⟨by omega, by omega⟩, rfl, hT⟩ dX5_isTaken_39
    · skip
      replace hb5 := hb5.trans (if_neg (Int.not_le.mpr c13))
      refine pm_aload_n hC 0 (by decide) dX5_isTaken_10 rfl ?_
      have e14 : V0 51 1 = 52 := hV0.one 51 1 (by decide) (by decide) rfl
      refine pm_getf (v := 52) hC 51 fl_X5_9 rfl rfl (by decide) rfl e14 dX5_isTaken_11 ?_
      refine pm_iload_n hC 3 dX5_isTaken_14 rfl ?_
      obtain ⟨y15, e16⟩ : ∃ y, V0 52 (x1 : Int).toNat = y := ⟨_, rfl⟩
      replace hb5 := hb5.trans (pf_let_eq e16)
      have b17 := hV0.get 52 (x1 : Int).toNat (lo := 0) (hi := 99) (by decide) (show _ < 9 by omega) rfl
      rw [e16] at b17
      refine pm_iaload (len := 9) (v := y15) hC 52 rfl rfl (by decide) ⟨by omega, by omega⟩ (by decide) e16 dX5_isTaken_15 ?_
      refine pm_iload_n hC 1 dX5_isTaken_16 rfl ?_
      refine pm_icmp_ne (tgt := 32) hC ⟨by omega, by omega⟩ ⟨by omega, by omega⟩ dX5_isTaken_17 (by decide) (fun c18 => ?_) (fun c18 => ?_)
      · skip
        replace hb5 := hb5.trans (if_pos c18)
        obtain ⟨x19, ei20⟩ : ∃ y : Int, x1 + 1 = y := ⟨_, rfl⟩
        replace hb5 := hb5.trans (pf_let_eq ei20)
        refine pm_iinc (y := x19) (lv' := [(3, (0, x19)), (0, (3, 51)), (1, (0, a1)), (2, (0, a2))]) hC 3 dX5_isTaken_32 (by decide) rfl ei20 rfl ?_
        refine pm_goto (tgt := 2) hC dX5_isTaken_35 (by decide) ?_
        refine pm_lvsub [1, 2, 3, 0] (lv' := [(0, (3, 51)), (1, (0, a1)), (2, (0, a2)), (3, (0, x19))]) rfl ?_
        exact ih9 _ (by omega) x19 ⟨by omega, by omega⟩ (hT.trans (pf_val_inl hb5)) rfl
      · skip
        replace hb5 := hb5.trans (if_neg (fun q => q c18))
        refine pm_aload_n hC 0 (by decide) dX5_isTaken_20 rfl ?_
        have e21 : V0 51 2 = 53 := hV0.one 51 2 (by decide) (by decide) rfl
        refine pm_getf (v := 53) hC 51 fl_X5_15 rfl rfl (by decide) rfl e21 dX5_isTaken_21 ?_
        refine pm_iload_n hC 3 dX5_isTaken_24 rfl ?_
        obtain ⟨y22, e23⟩ : ∃ y, V0 53 (x1 : Int).toNat = y := ⟨_, rfl⟩
        replace hb5 := hb5.trans (pf_let_eq e23)
        have b24 := hV0.get 53 (x1 : Int).toNat (lo := 0) (hi := 99) (by decide) (show _ < 9 by omega) rfl
        rw [e23] at b24
        refine pm_iaload (len := 9) (v := y22) hC 53 rfl rfl (by decide) ⟨by omega, by omega⟩ (by decide) e23 dX5_isTaken_25 ?_
        refine pm_iload_n hC 2 dX5_isTaken_26 rfl ?_
        refine pm_icmp_ne (tgt := 32) hC ⟨by omega, by omega⟩ ⟨by omega, by omega⟩ dX5_isTaken_27 (by decide) (fun c25 => ?_) (fun c25 => ?_)
        · skip
          replace hb5 := hb5.trans (if_pos c25)
          obtain ⟨x26, ei27⟩ : ∃ y : Int, x1 + 1 = y := ⟨_, rfl⟩
          replace hb5 := hb5.trans (pf_let_eq ei27)
          refine pm_iinc (y := x26) (lv' := [(3, (0, x26)), (0, (3, 51)), (1, (0, a1)), (2, (0, a2))]) hC 3 dX5_isTaken_32 (by decide) rfl ei27 rfl ?_
          refine pm_goto (tgt := 2) hC dX5_isTaken_35 (by decide) ?_
          refine pm_lvsub [1, 2, 3, 0] (lv' := [(0, (3, 51)), (1, (0, a1)), (2, (0, a2)), (3, (0, x26))]) rfl ?_
          exact ih9 _ (by omega) x26 ⟨by omega, by omega⟩ (hT.trans (pf_val_inl hb5)) rfl
        · skip
          replace hb5 := hb5.trans (if_neg (fun q => q c25))
          refine pm_iconst (v := 1) hC dX5_isTaken_30 ?_
          have hT := hT.trans (pf_val_inr hb5)
          exact pm_iret hC hR (pm_narZ (by omega)) ⟨1, rfl, ⟨by omega, by omega⟩, rfl, hT⟩ dX5_isTaken_31
  refine pm_lvsub [1, 2, 3, 0] (lv' := [(0, (3, 51)), (1, (0, a1)), (2, (0, a2)), (3, (0, 0))]) rfl ?_
  exact L6 _ 0 ⟨by decide, by decide⟩ hT rfl
set_option maxHeartbeats 4000000 in
set_option maxRecDepth 100000 in
theorem fC_X6_readSound_51  : pm_K 4 yX6_readSound cX6_readSound 3 (some .boolean) (fun av V => av = [(3, 69)] ∧ pm_ok 0 90 V ∧ (51 ≤ V 69 3 ∧ V 69 3 ≤ 51)) (fun _ V r V' => ∃ y, r = some (0, y) ∧ (0 ≤ y ∧ y ≤ 1) ∧ pm_ok 0 90 V' ∧ pm_fr [3, 51, 52, 53, 54, 70, 71] V V' ∧ F_X6_readSound 51 V = (y, V')) := by
  refine pm_MT.of (by decide) ⟨Nat.le_refl _, by decide⟩ (fun av V h => by rw [h.1]; exact (by decide : pm_words [(3, 0)] ≤ 3)) ?_
  rintro X av V0 hC - hR ⟨rfl, hV0, hq0⟩
  change pm_J X 0 [(0, (3, 69))] [] 118 V0
  have hT := F_X6_readSound_eq 51 V0
  obtain ⟨z0, ez0⟩ : ∃ z, V0 69 3 = z := ⟨_, rfl⟩
  rw [ez0] at hq0
  have en0 : V0 69 3 = 51 := by rw [ez0]; omega
  refine pm_aload_n hC 0 (by decide) dX6_readSound_0 rfl ?_
  refine pm_getf (v := 51) hC 69 fl_X6_23 rfl rfl (by decide) rfl en0 dX6_readSound_1 ?_
  obtain ⟨y1, e2⟩ : ∃ y, V0 51 0 = y := ⟨_, rfl⟩
  have b3 := hV0.get 51 0 (lo := 0) (hi := 9) (by decide) (by decide) rfl
  rw [e2] at b3
  replace hT := hT.trans (pf_let_eq e2)
  refine pm_getf (v := y1) hC 51 fl_X6_95 rfl rfl (by decide) rfl e2 dX6_readSound_4 ?_
  refine pm_istore_n (lv' := [(1, (0, y1)), (0, (3, 69))]) hC dX6_readSound_7 (by decide) rfl ?_
  refine pm_iload_n hC 0 dX6_readSound_8 rfl ?_
  refine pm_bipush (v := 9) hC dX6_readSound_9 (by decide) ?_
  refine pm_icmp_lt (tgt := 16) hC ⟨by omega, by omega⟩ ⟨by decide, by decide⟩ dX6_readSound_11 (by decide) (fun c4 => ?_) (fun c4 => ?_)
  · skip
    replace hT := hT.trans (if_pos c4)
    refine pm_aload_n hC 1 (by decide) dX6_readSound_16 rfl ?_
    have e5 : V0 69 0 = 3 := hV0.one 69 0 (by decide) (by decide) rfl
    refine pm_getf (v := 3) hC 69 fl_X6_9 rfl rfl (by decide) rfl e5 dX6_readSound_17 ?_
    refine pm_callV (ci := 9) (as := []) (st := []) hC 3 fC_X9_step lm_X6_98 li_X9_step (by decide) (by decide) rfl rfl rfl (by decide) rfl rfl (Nat.le_of_ble_eq_true rfl) ⟨Nat.le_refl _, Or.inl rfl⟩ dX6_readSound_20 ⟨rfl, hV0⟩ (fun r6 V7 hp8 => ?_)
    obtain ⟨rfl, hV9, hF10, hE11⟩ := hp8
    replace hT := hT.trans (pf_call_eq hE11)
    change pm_J X 23 [(1, (0, y1)), (0, (3, 69))] [] 118 V7
    have hF12 := pm_fr.tr (pm_fr.rf (ws := [3, 51, 52, 53, 54, 70, 71]) (V := V0)) hF10 (by decide)
    have e13 : V7 69 3 = 51 := by rw [hF10 69 (by decide)]; exact en0
    have e14 : V7 51 0 = y1 := by rw [hF10 51 (by decide)]; exact e2
    have e15 : V7 69 0 = 3 := by rw [hF10 69 (by decide)]; exact e5
    refine pm_aload_n hC 1 (by decide) dX6_readSound_23 rfl ?_
    refine pm_getf (v := 3) hC 69 fl_X6_9 rfl rfl (by decide) rfl e15 dX6_readSound_24 ?_
    refine pm_callV (ci := 9) (as := []) (st := []) hC 3 fC_X9_isName lm_X6_101 li_X9_isName (by decide) (by decide) rfl rfl rfl (by decide) rfl rfl (Nat.le_of_ble_eq_true rfl) ⟨Nat.le_refl _, Or.inl rfl⟩ dX6_readSound_27 ⟨rfl, hV9⟩ (fun r16 V17 hp18 => ?_)
    obtain ⟨y19, rfl, b20, rfl, hE21⟩ := hp18
    replace hT := hT.trans (pf_call_eq hE21)
    change pm_J X 30 [(1, (0, y1)), (0, (3, 69))] [(0, y19)] 118 V7
    refine pm_if_eq (tgt := 41) hC ⟨by omega, by omega⟩ dX6_readSound_30 (by decide) (fun c22 => ?_) (fun c22 => ?_)
    · skip
      replace hT := hT.trans (if_pos c22)
      refine pm_iconst (v := 0) hC dX6_readSound_41 ?_
      exact pm_iret hC hR (pm_narZ (by omega)) ⟨0, rfl, ⟨by omega, by omega⟩, hV9, hF12, hT⟩ dX6_readSound_42
    · skip
      replace hT := hT.trans (if_neg c22)
      refine pm_aload_n hC 1 (by decide) dX6_readSound_33 rfl ?_
      have q26 : 51 ≤ V7 69 3 ∧ V7 69 3 ≤ 51 := by (have e : V7 69 3 = 51 := e13); rw [e]; exact ⟨by decide, by decide⟩
      refine pm_callV (ci := 6) (as := []) (st := []) hC 69 fC_X6_findName_51 lm_X6_104 li_X6_findName (by decide) (by decide) rfl rfl rfl (by decide) rfl rfl (Nat.le_of_ble_eq_true rfl) ⟨Nat.le_refl _, Or.inl rfl⟩ dX6_readSound_34 ⟨rfl, hV9, q26⟩ (fun r23 V24 hp25 => ?_)
      obtain ⟨y27, rfl, b28, rfl, hE29⟩ := hp25
      replace hT := hT.trans (pf_call_eq hE29)
      change pm_J X 37 [(1, (0, y1)), (0, (3, 69))] [(0, y27)] 118 V7
      refine pm_iconst (v := (-1)) hC dX6_readSound_37 ?_
      refine pm_icmp_eq (tgt := 43) hC ⟨by omega, by omega⟩ ⟨by decide, by decide⟩ dX6_readSound_38 (by decide) (fun c30 => ?_) (fun c30 => ?_)
      · skip
        replace hT := hT.trans (if_pos c30)
        refine pm_aload_n hC 1 (by decide) dX6_readSound_43 rfl ?_
        have e31 : V7 69 1 = 70 := hV9.one 69 1 (by decide) (by decide) rfl
        refine pm_getf (v := 70) hC 69 fl_X6_15 rfl rfl (by decide) rfl e31 dX6_readSound_44 ?_
        refine pm_iload_n hC 0 dX6_readSound_47 rfl ?_
        refine pm_aload_n hC 1 (by decide) dX6_readSound_48 rfl ?_
        refine pm_getf (v := 3) hC 69 fl_X6_9 rfl rfl (by decide) rfl e15 dX6_readSound_49 ?_
        obtain ⟨y32, e33⟩ : ∃ y, V7 3 3 = y := ⟨_, rfl⟩
        have b34 := hV9.get 3 3 (lo := (-9223372036854775808)) (hi := 9223372036854775807) (by decide) (by decide) rfl
        rw [e33] at b34
        replace hT := hT.trans (pf_let_eq e33)
        refine pm_getf (v := y32) hC 3 fl_X6_108 rfl rfl (by decide) rfl e33 dX6_readSound_52 ?_
        refine pm_lastore (len := 9) hC 70 rfl rfl (by decide) ⟨by omega, by omega⟩ (by decide) dX6_readSound_55 ?_
        refine pm_aload_n hC 1 (by decide) dX6_readSound_56 rfl ?_
        refine pm_getf (v := 3) hC 69 fl_X6_9 rfl rfl (by decide) rfl e15 dX6_readSound_57 ?_
        refine pm_callV (ci := 9) (as := []) (st := []) hC 3 fC_X9_step lm_X6_98 li_X9_step (by decide) (by decide) rfl rfl rfl (by decide) rfl rfl (Nat.le_of_ble_eq_true rfl) ⟨Nat.le_refl _, Or.inl rfl⟩ dX6_readSound_60 ⟨rfl, (hV9.put 70 (y1 : Int).toNat (x := y32) (lo := (-9223372036854775808)) (hi := 9223372036854775807) rfl ⟨by omega, by omega⟩)⟩ (fun r35 V36 hp37 => ?_)
        obtain ⟨rfl, hV38, hF39, hE40⟩ := hp37
        replace hT := hT.trans (pf_call_eq hE40)
        change pm_J X 63 [(1, (0, y1)), (0, (3, 69))] [] 118 V36
        have hF41 := pm_fr.tr (hF12.up 70 (y1 : Int).toNat y32 rfl) hF39 (by decide)
        have e42 : V36 69 3 = 51 := by rw [hF39 69 (by decide)]; exact e13
        have e43 : V36 51 0 = y1 := by rw [hF39 51 (by decide)]; exact e14
        have e44 : V36 69 0 = 3 := by rw [hF39 69 (by decide)]; exact e15
        have e45 : V36 69 1 = 70 := by rw [hF39 69 (by decide)]; exact e31
        refine pm_aload_n hC 1 (by decide) dX6_readSound_63 rfl ?_
        refine pm_getf (v := 3) hC 69 fl_X6_9 rfl rfl (by decide) rfl e44 dX6_readSound_64 ?_
        refine pm_iconst (v := 0) hC dX6_readSound_67 ?_
        refine pm_bipush (v := 99) hC dX6_readSound_68 (by decide) ?_
        obtain ⟨y46, e47⟩ : ∃ y, V36 3 3 = y := ⟨_, rfl⟩
        have b48 := hV38.get 3 3 (lo := (-9223372036854775808)) (hi := 9223372036854775807) (by decide) (by decide) rfl
        rw [e47] at b48
        replace hT := hT.trans (pf_let_eq e47)
        refine pm_callV (ci := 9) (as := [(0, 0), (0, 99)]) (st := []) hC 3 (fC_X9_isNumber 0 99 ⟨by decide, by decide⟩ ⟨by decide, by decide⟩) lm_X6_112 li_X9_isNumber (by decide) (by decide) rfl rfl rfl (by decide) rfl rfl (Nat.le_of_ble_eq_true rfl) ⟨Nat.le_refl _, Or.inl rfl⟩ dX6_readSound_70 ⟨rfl, hV38⟩ (fun r49 V50 hp51 => ?_)
        obtain ⟨y52, rfl, b53, rfl, hE54⟩ := hp51
        replace hT := hT.trans (pf_call_eq hE54)
        change pm_J X 73 [(1, (0, y1)), (0, (3, 69))] [(0, y52)] 118 V36
        refine pm_if_ne (tgt := 78) hC ⟨by omega, by omega⟩ dX6_readSound_73 (by decide) (fun c55 => ?_) (fun c55 => ?_)
        · skip
          replace hT := hT.trans (if_pos c55)
          refine pm_aload_n hC 1 (by decide) dX6_readSound_78 rfl ?_
          refine pm_getf (v := 3) hC 69 fl_X6_9 rfl rfl (by decide) rfl e44 dX6_readSound_79 ?_
          refine pm_getf (v := y46) hC 3 fl_X6_108 rfl rfl (by decide) rfl e47 dX6_readSound_82 ?_
          refine pm_l2i hC dX6_readSound_85 ?_
          refine pm_istore_n (lv' := [(2, (0, y46)), (1, (0, y1)), (0, (3, 69))]) hC dX6_readSound_86 (by decide) rfl ?_
          refine pm_aload_n hC 2 (by decide) dX6_readSound_87 rfl ?_
          refine pm_getf (v := 3) hC 69 fl_X6_9 rfl rfl (by decide) rfl e44 dX6_readSound_88 ?_
          refine pm_callV (ci := 9) (as := []) (st := []) hC 3 fC_X9_step lm_X6_98 li_X9_step (by decide) (by decide) rfl rfl rfl (by decide) rfl rfl (Nat.le_of_ble_eq_true rfl) ⟨Nat.le_refl _, Or.inl rfl⟩ dX6_readSound_91 ⟨rfl, hV38⟩ (fun r56 V57 hp58 => ?_)
          obtain ⟨rfl, hV59, hF60, hE61⟩ := hp58
          replace hT := hT.trans (pf_call_eq hE61)
          change pm_J X 94 [(2, (0, y46)), (1, (0, y1)), (0, (3, 69))] [] 118 V57
          have hF62 := pm_fr.tr hF41 hF60 (by decide)
          have e63 : V57 69 3 = 51 := by rw [hF60 69 (by decide)]; exact e42
          have e64 : V57 51 0 = y1 := by rw [hF60 51 (by decide)]; exact e43
          have e65 : V57 69 0 = 3 := by rw [hF60 69 (by decide)]; exact e44
          have e66 : V57 69 1 = 70 := by rw [hF60 69 (by decide)]; exact e45
          refine pm_aload_n hC 2 (by decide) dX6_readSound_94 rfl ?_
          refine pm_getf (v := 3) hC 69 fl_X6_9 rfl rfl (by decide) rfl e65 dX6_readSound_95 ?_
          refine pm_iconst (v := 0) hC dX6_readSound_98 ?_
          refine pm_bipush (v := 99) hC dX6_readSound_99 (by decide) ?_
          obtain ⟨y67, e68⟩ : ∃ y, V57 3 3 = y := ⟨_, rfl⟩
          have b69 := hV59.get 3 3 (lo := (-9223372036854775808)) (hi := 9223372036854775807) (by decide) (by decide) rfl
          rw [e68] at b69
          replace hT := hT.trans (pf_let_eq e68)
          refine pm_callV (ci := 9) (as := [(0, 0), (0, 99)]) (st := []) hC 3 (fC_X9_isNumber 0 99 ⟨by decide, by decide⟩ ⟨by decide, by decide⟩) lm_X6_112 li_X9_isNumber (by decide) (by decide) rfl rfl rfl (by decide) rfl rfl (Nat.le_of_ble_eq_true rfl) ⟨Nat.le_refl _, Or.inl rfl⟩ dX6_readSound_101 ⟨rfl, hV59⟩ (fun r70 V71 hp72 => ?_)
          obtain ⟨y73, rfl, b74, rfl, hE75⟩ := hp72
          replace hT := hT.trans (pf_call_eq hE75)
          change pm_J X 104 [(2, (0, y46)), (1, (0, y1)), (0, (3, 69))] [(0, y73)] 118 V57
          refine pm_if_eq (tgt := 126) hC ⟨by omega, by omega⟩ dX6_readSound_104 (by decide) (fun c76 => ?_) (fun c76 => ?_)
          · skip
            replace hT := hT.trans (if_pos c76)
            refine pm_iconst (v := 0) hC dX6_readSound_126 ?_
            exact pm_iret hC hR (pm_narZ (by omega)) ⟨0, rfl, ⟨by omega, by omega⟩, hV59, hF62, hT⟩ dX6_readSound_127
          · skip
            replace hT := hT.trans (if_neg c76)
            refine pm_aload_n hC 2 (by decide) dX6_readSound_107 rfl ?_
            refine pm_getf (v := 51) hC 69 fl_X6_23 rfl rfl (by decide) rfl e63 dX6_readSound_108 ?_
            refine pm_iload_n hC 0 dX6_readSound_111 rfl ?_
            refine pm_aload_n hC 2 (by decide) dX6_readSound_112 rfl ?_
            refine pm_getf (v := 3) hC 69 fl_X6_9 rfl rfl (by decide) rfl e65 dX6_readSound_113 ?_
            refine pm_getf (v := y67) hC 3 fl_X6_108 rfl rfl (by decide) rfl e68 dX6_readSound_116 ?_
            refine pm_l2i hC dX6_readSound_119 ?_
            refine pm_callV (ci := 5) (as := [(0, y46), (0, y67)]) (st := []) hC 51 (fC_X5_isTaken_51 y46 y67 ⟨by omega, by omega⟩ ⟨by omega, by omega⟩) lm_X6_116 li_X5_isTaken (by decide) (by decide) rfl rfl rfl (by decide) rfl rfl (Nat.le_of_ble_eq_true rfl) ⟨Nat.le_refl _, Or.inl rfl⟩ dX6_readSound_120 ⟨rfl, hV59⟩ (fun r77 V78 hp79 => ?_)
            obtain ⟨y80, rfl, b81, rfl, hE82⟩ := hp79
            replace hT := hT.trans (pf_call_eq hE82)
            change pm_J X 123 [(2, (0, y46)), (1, (0, y1)), (0, (3, 69))] [(0, y80)] 118 V57
            refine pm_if_eq (tgt := 128) hC ⟨by omega, by omega⟩ dX6_readSound_123 (by decide) (fun c83 => ?_) (fun c83 => ?_)
            · skip
              replace hT := hT.trans (if_pos c83)
              refine pm_aload_n hC 2 (by decide) dX6_readSound_128 rfl ?_
              refine pm_getf (v := 51) hC 69 fl_X6_23 rfl rfl (by decide) rfl e63 dX6_readSound_129 ?_
              have e84 : V57 51 1 = 52 := hV59.one 51 1 (by decide) (by decide) rfl
              refine pm_getf (v := 52) hC 51 fl_X6_119 rfl rfl (by decide) rfl e84 dX6_readSound_132 ?_
              refine pm_iload_n hC 1 dX6_readSound_135 rfl ?_
              refine pm_iload_n hC 0 dX6_readSound_136 rfl ?_
              refine pm_iastore (len := 9) hC 52 rfl rfl (by decide) ⟨by omega, by omega⟩ (by decide) dX6_readSound_137 ?_
              refine pm_aload_n hC 2 (by decide) dX6_readSound_138 rfl ?_
              refine pm_getf (v := 51) hC 69 fl_X6_23 rfl rfl (by decide) rfl e63 dX6_readSound_139 ?_
              have e85 : V57 51 2 = 53 := hV59.one 51 2 (by decide) (by decide) rfl
              refine pm_getf (v := 53) hC 51 fl_X6_123 rfl rfl (by decide) rfl e85 dX6_readSound_142 ?_
              refine pm_iload_n hC 1 dX6_readSound_145 rfl ?_
              refine pm_aload_n hC 2 (by decide) dX6_readSound_146 rfl ?_
              refine pm_getf (v := 3) hC 69 fl_X6_9 rfl rfl (by decide) rfl e65 dX6_readSound_147 ?_
              refine pm_getf (v := y67) hC 3 fl_X6_108 rfl rfl (by decide) rfl e68 dX6_readSound_150 ?_
              refine pm_l2i hC dX6_readSound_153 ?_
              refine pm_iastore (len := 9) hC 53 rfl rfl (by decide) ⟨by omega, by omega⟩ (by decide) dX6_readSound_154 ?_
              refine pm_aload_n hC 2 (by decide) dX6_readSound_155 rfl ?_
              refine pm_getf (v := 51) hC 69 fl_X6_23 rfl rfl (by decide) rfl e63 dX6_readSound_156 ?_
              have e86 : V57 51 3 = 54 := hV59.one 51 3 (by decide) (by decide) rfl
              refine pm_getf (v := 54) hC 51 fl_X6_126 rfl rfl (by decide) rfl e86 dX6_readSound_159 ?_
              refine pm_iload_n hC 1 dX6_readSound_162 rfl ?_
              refine pm_iconst (v := 1) hC dX6_readSound_163 ?_
              refine pm_iastore (len := 9) hC 54 rfl rfl (by decide) ⟨by omega, by omega⟩ (by decide) dX6_readSound_164 ?_
              refine pm_aload_n hC 2 (by decide) dX6_readSound_165 rfl ?_
              have e87 : V57 69 2 = 71 := hV59.one 69 2 (by decide) (by decide) rfl
              refine pm_getf (v := 71) hC 69 fl_X6_19 rfl rfl (by decide) rfl e87 dX6_readSound_166 ?_
              refine pm_iload_n hC 1 dX6_readSound_169 rfl ?_
              refine pm_iconst (v := 0) hC dX6_readSound_170 ?_
              refine pm_zastore (len := 9) hC 71 rfl rfl (by decide) ⟨by omega, by omega⟩ (by decide) (by omega) dX6_readSound_171 ?_
              refine pm_aload_n hC 2 (by decide) dX6_readSound_172 rfl ?_
              refine pm_getf (v := 51) hC 69 fl_X6_23 rfl rfl (by decide) rfl e63 dX6_readSound_173 ?_
              refine pm_iload_n hC 1 dX6_readSound_176 rfl ?_
              refine pm_iconst (v := 1) hC dX6_readSound_177 ?_
              refine pm_iadd hC dX6_readSound_178 ?_
              refine pm_putf hC 51 fl_X6_95 rfl rfl rfl (by decide) rfl trivial dX6_readSound_179 ?_
              refine pm_aload_n hC 2 (by decide) dX6_readSound_182 rfl ?_
              refine pm_getf (v := 3) hC 69 fl_X6_9 rfl rfl (by decide) rfl e65 dX6_readSound_183 ?_
              refine pm_callV (ci := 9) (as := []) (st := []) hC 3 fC_X9_step lm_X6_98 li_X9_step (by decide) (by decide) rfl rfl rfl (by decide) rfl rfl (Nat.le_of_ble_eq_true rfl) ⟨Nat.le_refl _, Or.inl rfl⟩ dX6_readSound_186 ⟨rfl, (((((hV59.put 52 (y1 : Int).toNat (x := y46) (lo := 0) (hi := 99) rfl ⟨by omega, by omega⟩).put 53 (y1 : Int).toNat (x := y67) (lo := 0) (hi := 99) rfl ⟨by omega, by omega⟩).put 54 (y1 : Int).toNat (x := 1) (lo := 0) (hi := 9) rfl ⟨by decide, by decide⟩).put 71 (y1 : Int).toNat (x := 0) (lo := 0) (hi := 1) rfl ⟨by decide, by decide⟩).put 51 0 (x := (y1 + 1)) (lo := 0) (hi := 9) rfl ⟨by omega, by omega⟩)⟩ (fun r88 V89 hp90 => ?_)
              obtain ⟨rfl, hV91, hF92, hE93⟩ := hp90
              replace hT := hT.trans (pf_call_eq hE93)
              change pm_J X 189 [(2, (0, y46)), (1, (0, y1)), (0, (3, 69))] [] 118 V89
              have hF94 := pm_fr.tr (((((hF62.up 52 (y1 : Int).toNat y46 rfl).up 53 (y1 : Int).toNat y67 rfl).up 54 (y1 : Int).toNat 1 rfl).up 71 (y1 : Int).toNat 0 rfl).up 51 0 (y1 + 1) rfl) hF92 (by decide)
              have e95 : V89 69 3 = 51 := by rw [hF92 69 (by decide)]; exact e63
              have e96 : V89 69 0 = 3 := by rw [hF92 69 (by decide)]; exact e65
              have e97 : V89 69 1 = 70 := by rw [hF92 69 (by decide)]; exact e66
              have e98 : V89 51 1 = 52 := by rw [hF92 51 (by decide)]; exact e84
              have e99 : V89 51 2 = 53 := by rw [hF92 51 (by decide)]; exact e85
              have e100 : V89 51 3 = 54 := by rw [hF92 51 (by decide)]; exact e86
              have e101 : V89 69 2 = 71 := by rw [hF92 69 (by decide)]; exact e87
              have e102 : V89 51 0 = (y1 + 1) := by rw [hF92 51 (by decide)]; rfl
              refine pm_aload_n hC 2 (by decide) dX6_readSound_189 rfl ?_
              have q106 : 51 ≤ V89 69 3 ∧ V89 69 3 ≤ 51 := by (have e : V89 69 3 = 51 := e95); rw [e]; exact ⟨by decide, by decide⟩
              refine pm_callV (ci := 6) (as := []) (st := []) hC 69 fC_X6_closes_51 lm_X6_129 li_X6_closes (by decide) (by decide) rfl rfl rfl (by decide) rfl rfl (Nat.le_of_ble_eq_true rfl) ⟨Nat.le_refl _, Or.inl rfl⟩ dX6_readSound_190 ⟨rfl, hV91, q106⟩ (fun r103 V104 hp105 => ?_)
              obtain ⟨y107, rfl, b108, hV109, hF110, hE111⟩ := hp105
              replace hT := hT.trans (pf_call_eq hE111)
              change pm_J X 193 [(2, (0, y46)), (1, (0, y1)), (0, (3, 69))] [(0, y107)] 118 V104
              have hF112 := pm_fr.tr hF94 hF110 (by decide)
              have e113 : V104 69 3 = 51 := by rw [hF110 69 (by decide)]; exact e95
              have e114 : V104 69 0 = 3 := by rw [hF110 69 (by decide)]; exact e96
              have e115 : V104 69 1 = 70 := by rw [hF110 69 (by decide)]; exact e97
              have e116 : V104 51 1 = 52 := by rw [hF110 51 (by decide)]; exact e98
              have e117 : V104 51 2 = 53 := by rw [hF110 51 (by decide)]; exact e99
              have e118 : V104 51 3 = 54 := by rw [hF110 51 (by decide)]; exact e100
              have e119 : V104 69 2 = 71 := by rw [hF110 69 (by decide)]; exact e101
              have e120 : V104 51 0 = (y1 + 1) := by rw [hF110 51 (by decide)]; exact e102
              exact pm_iret hC hR (pm_narZ (by omega)) ⟨y107, rfl, ⟨by omega, by omega⟩, hV109, hF112, hT⟩ dX6_readSound_193
            · skip
              replace hT := hT.trans (if_neg c83)
              refine pm_iconst (v := 0) hC dX6_readSound_126 ?_
              exact pm_iret hC hR (pm_narZ (by omega)) ⟨0, rfl, ⟨by omega, by omega⟩, hV59, hF62, hT⟩ dX6_readSound_127
        · skip
          replace hT := hT.trans (if_neg (fun q => q c55))
          refine pm_iconst (v := 0) hC dX6_readSound_76 ?_
          exact pm_iret hC hR (pm_narZ (by omega)) ⟨0, rfl, ⟨by omega, by omega⟩, hV38, hF41, hT⟩ dX6_readSound_77
      · skip
        replace hT := hT.trans (if_neg c30)
        refine pm_iconst (v := 0) hC dX6_readSound_41 ?_
        exact pm_iret hC hR (pm_narZ (by omega)) ⟨0, rfl, ⟨by omega, by omega⟩, hV9, hF12, hT⟩ dX6_readSound_42
  · skip
    replace hT := hT.trans (if_neg (Int.not_lt.mpr c4))
    refine pm_iconst (v := 0) hC dX6_readSound_14 ?_
    exact pm_iret hC hR (pm_narZ (by omega)) ⟨0, rfl, ⟨by omega, by omega⟩, hV0, (pm_fr.rf (ws := [3, 51, 52, 53, 54, 70, 71]) (V := V0)), hT⟩ dX6_readSound_15
set_option maxHeartbeats 4000000 in
set_option maxRecDepth 100000 in
theorem fC_X6_readStatement_51  : pm_K 5 yX6_readStatement cX6_readStatement 1 (some .boolean) (fun av V => av = [(3, 69)] ∧ pm_ok 0 90 V ∧ (51 ≤ V 69 3 ∧ V 69 3 ≤ 51)) (fun _ V r V' => ∃ y, r = some (0, y) ∧ (0 ≤ y ∧ y ≤ 1) ∧ pm_ok 0 90 V' ∧ pm_fr [3, 51, 52, 53, 54, 55, 56, 69, 70, 71] V V' ∧ (51 ≤ V' 69 3 ∧ V' 69 3 ≤ 51) ∧ F_X6_readStatement 51 V = (y, V')) := by
  refine pm_MT.of (by decide) ⟨Nat.le_refl _, by decide⟩ (fun av V h => by rw [h.1]; exact (by decide : pm_words [(3, 0)] ≤ 1)) ?_
  rintro X av V0 hC - hR ⟨rfl, hV0, hq0⟩
  change pm_J X 0 [(0, (3, 69))] [] 118 V0
  have hT := F_X6_readStatement_eq 51 V0
  obtain ⟨z0, ez0⟩ : ∃ z, V0 69 3 = z := ⟨_, rfl⟩
  rw [ez0] at hq0
  have en0 : V0 69 3 = 51 := by rw [ez0]; omega
  refine pm_aload_n hC 0 (by decide) dX6_readStatement_0 rfl ?_
  have e1 : V0 69 0 = 3 := hV0.one 69 0 (by decide) (by decide) rfl
  refine pm_getf (v := 3) hC 69 fl_X6_9 rfl rfl (by decide) rfl e1 dX6_readStatement_1 ?_
  refine pm_ldc2 (v := 495791205988) hC 3005 dX6_readStatement_4 (by decide +kernel) ?_
  refine pm_callV (ci := 9) (as := [(1, 495791205988)]) (st := []) hC 3 (fC_X9_isWord 495791205988 ⟨by decide, by decide⟩) lm_X6_63 li_X9_isWord (by decide) (by decide) rfl rfl rfl (by decide) rfl rfl (Nat.le_of_ble_eq_true rfl) ⟨Nat.le_refl _, Or.inl rfl⟩ dX6_readStatement_7 ⟨rfl, hV0⟩ (fun r2 V3 hp4 => ?_)
  obtain ⟨y5, rfl, b6, rfl, hE7⟩ := hp4
  replace hT := hT.trans (pf_call_eq hE7)
  change pm_J X 10 [(0, (3, 69))] [(0, y5)] 118 V0
  refine pm_if_eq (tgt := 18) hC ⟨by omega, by omega⟩ dX6_readStatement_10 (by decide) (fun c8 => ?_) (fun c8 => ?_)
  · skip
    replace hT := hT.trans (if_pos c8)
    refine pm_aload_n hC 0 (by decide) dX6_readStatement_18 rfl ?_
    refine pm_getf (v := 3) hC 69 fl_X6_9 rfl rfl (by decide) rfl e1 dX6_readStatement_19 ?_
    refine pm_ldc2 (v := 508675318629) hC 3045 dX6_readStatement_22 (by decide +kernel) ?_
    refine pm_callV (ci := 9) (as := [(1, 508675318629)]) (st := []) hC 3 (fC_X9_isWord 508675318629 ⟨by decide, by decide⟩) lm_X6_63 li_X9_isWord (by decide) (by decide) rfl rfl rfl (by decide) rfl rfl (Nat.le_of_ble_eq_true rfl) ⟨Nat.le_refl _, Or.inl rfl⟩ dX6_readStatement_25 ⟨rfl, hV0⟩ (fun r9 V10 hp11 => ?_)
    obtain ⟨y12, rfl, b13, rfl, hE14⟩ := hp11
    replace hT := hT.trans (pf_call_eq hE14)
    change pm_J X 28 [(0, (3, 69))] [(0, y12)] 118 V0
    refine pm_if_eq (tgt := 36) hC ⟨by omega, by omega⟩ dX6_readStatement_28 (by decide) (fun c15 => ?_) (fun c15 => ?_)
    · skip
      replace hT := hT.trans (if_pos c15)
      refine pm_aload_n hC 0 (by decide) dX6_readStatement_36 rfl ?_
      refine pm_getf (v := 3) hC 69 fl_X6_9 rfl rfl (by decide) rfl e1 dX6_readStatement_37 ?_
      refine pm_ldc2 (v := 1717658469) hC 3054 dX6_readStatement_40 (by decide +kernel) ?_
      refine pm_callV (ci := 9) (as := [(1, 1717658469)]) (st := []) hC 3 (fC_X9_isWord 1717658469 ⟨by decide, by decide⟩) lm_X6_63 li_X9_isWord (by decide) (by decide) rfl rfl rfl (by decide) rfl rfl (Nat.le_of_ble_eq_true rfl) ⟨Nat.le_refl _, Or.inl rfl⟩ dX6_readStatement_43 ⟨rfl, hV0⟩ (fun r16 V17 hp18 => ?_)
      obtain ⟨y19, rfl, b20, rfl, hE21⟩ := hp18
      replace hT := hT.trans (pf_call_eq hE21)
      change pm_J X 46 [(0, (3, 69))] [(0, y19)] 118 V0
      refine pm_if_eq (tgt := 54) hC ⟨by omega, by omega⟩ dX6_readStatement_46 (by decide) (fun c22 => ?_) (fun c22 => ?_)
      · skip
        replace hT := hT.trans (if_pos c22)
        refine pm_aload_n hC 0 (by decide) dX6_readStatement_54 rfl ?_
        refine pm_getf (v := 3) hC 69 fl_X6_9 rfl rfl (by decide) rfl e1 dX6_readStatement_55 ?_
        refine pm_ldc2 (v := 1868850291) hC 3059 dX6_readStatement_58 (by decide +kernel) ?_
        refine pm_callV (ci := 9) (as := [(1, 1868850291)]) (st := []) hC 3 (fC_X9_isWord 1868850291 ⟨by decide, by decide⟩) lm_X6_63 li_X9_isWord (by decide) (by decide) rfl rfl rfl (by decide) rfl rfl (Nat.le_of_ble_eq_true rfl) ⟨Nat.le_refl _, Or.inl rfl⟩ dX6_readStatement_61 ⟨rfl, hV0⟩ (fun r23 V24 hp25 => ?_)
        obtain ⟨y26, rfl, b27, rfl, hE28⟩ := hp25
        replace hT := hT.trans (pf_call_eq hE28)
        change pm_J X 64 [(0, (3, 69))] [(0, y26)] 118 V0
        refine pm_if_eq (tgt := 72) hC ⟨by omega, by omega⟩ dX6_readStatement_64 (by decide) (fun c29 => ?_) (fun c29 => ?_)
        · skip
          replace hT := hT.trans (if_pos c29)
          refine pm_aload_n hC 0 (by decide) dX6_readStatement_72 rfl ?_
          refine pm_getf (v := 3) hC 69 fl_X6_9 rfl rfl (by decide) rfl e1 dX6_readStatement_73 ?_
          refine pm_ldc2 (v := 1752132708) hC 3064 dX6_readStatement_76 (by decide +kernel) ?_
          refine pm_callV (ci := 9) (as := [(1, 1752132708)]) (st := []) hC 3 (fC_X9_isWord 1752132708 ⟨by decide, by decide⟩) lm_X6_63 li_X9_isWord (by decide) (by decide) rfl rfl rfl (by decide) rfl rfl (Nat.le_of_ble_eq_true rfl) ⟨Nat.le_refl _, Or.inl rfl⟩ dX6_readStatement_79 ⟨rfl, hV0⟩ (fun r30 V31 hp32 => ?_)
          obtain ⟨y33, rfl, b34, rfl, hE35⟩ := hp32
          replace hT := hT.trans (pf_call_eq hE35)
          change pm_J X 82 [(0, (3, 69))] [(0, y33)] 118 V0
          refine pm_if_eq (tgt := 90) hC ⟨by omega, by omega⟩ dX6_readStatement_82 (by decide) (fun c36 => ?_) (fun c36 => ?_)
          · skip
            replace hT := hT.trans (if_pos c36)
            refine pm_aload_n hC 0 (by decide) dX6_readStatement_90 rfl ?_
            refine pm_getf (v := 3) hC 69 fl_X6_9 rfl rfl (by decide) rfl e1 dX6_readStatement_91 ?_
            refine pm_ldc2 (v := 465557353070) hC 3069 dX6_readStatement_94 (by decide +kernel) ?_
            refine pm_callV (ci := 9) (as := [(1, 465557353070)]) (st := []) hC 3 (fC_X9_isWord 465557353070 ⟨by decide, by decide⟩) lm_X6_63 li_X9_isWord (by decide) (by decide) rfl rfl rfl (by decide) rfl rfl (Nat.le_of_ble_eq_true rfl) ⟨Nat.le_refl _, Or.inl rfl⟩ dX6_readStatement_97 ⟨rfl, hV0⟩ (fun r37 V38 hp39 => ?_)
            obtain ⟨y40, rfl, b41, rfl, hE42⟩ := hp39
            replace hT := hT.trans (pf_call_eq hE42)
            change pm_J X 100 [(0, (3, 69))] [(0, y40)] 118 V0
            refine pm_if_eq (tgt := 114) hC ⟨by omega, by omega⟩ dX6_readStatement_100 (by decide) (fun c43 => ?_) (fun c43 => ?_)
            · skip
              replace hT := hT.trans (if_pos c43)
              refine pm_iconst (v := 0) hC dX6_readStatement_114 ?_
              have q44 : 51 ≤ V0 69 3 ∧ V0 69 3 ≤ 51 := by (have e : V0 69 3 = 51 := en0); rw [e]; exact ⟨by decide, by decide⟩
              exact pm_iret hC hR (pm_narZ (by omega)) ⟨0, rfl, ⟨by omega, by omega⟩, hV0, (pm_fr.rf (ws := [3, 51, 52, 53, 54, 55, 56, 69, 70, 71]) (V := V0)), q44, hT⟩ dX6_readStatement_115
            · skip
              replace hT := hT.trans (if_neg c43)
              refine pm_aload_n hC 0 (by decide) dX6_readStatement_103 rfl ?_
              have q48 : 51 ≤ V0 69 3 ∧ V0 69 3 ≤ 51 := by (have e : V0 69 3 = 51 := en0); rw [e]; exact ⟨by decide, by decide⟩
              refine pm_callV (ci := 6) (as := []) (st := []) hC 69 fC_X6_readLearn_51 lm_X6_92 li_X6_readLearn (by decide) (by decide) rfl rfl rfl (by decide) rfl rfl (Nat.le_of_ble_eq_true rfl) ⟨Nat.le_refl _, Or.inl rfl⟩ dX6_readStatement_104 ⟨rfl, hV0, q48⟩ (fun r45 V46 hp47 => ?_)
              obtain ⟨y49, rfl, b50, hV51, hF52, hE53⟩ := hp47
              replace hT := hT.trans (pf_call_eq hE53)
              change pm_J X 107 [(0, (3, 69))] [(0, y49)] 118 V46
              have hF54 := pm_fr.tr (pm_fr.rf (ws := [3, 51, 52, 53, 54, 55, 56, 69, 70, 71]) (V := V0)) hF52 (by decide)
              have e55 : V46 69 3 = 51 := by rw [hF52 69 (by decide)]; exact en0
              have e56 : V46 69 0 = 3 := by rw [hF52 69 (by decide)]; exact e1
              refine pm_if_eq (tgt := 114) hC ⟨by omega, by omega⟩ dX6_readStatement_107 (by decide) (fun c57 => ?_) (fun c57 => ?_)
              · skip
                replace hT := hT.trans (if_pos c57)
                refine pm_iconst (v := 0) hC dX6_readStatement_114 ?_
                have q58 : 51 ≤ V46 69 3 ∧ V46 69 3 ≤ 51 := by (have e : V46 69 3 = 51 := e55); rw [e]; exact ⟨by decide, by decide⟩
                exact pm_iret hC hR (pm_narZ (by omega)) ⟨0, rfl, ⟨by omega, by omega⟩, hV51, hF54, q58, hT⟩ dX6_readStatement_115
              · skip
                replace hT := hT.trans (if_neg c57)
                refine pm_iconst (v := 1) hC dX6_readStatement_110 ?_
                refine pm_goto (tgt := 115) hC dX6_readStatement_111 (by decide) ?_
                have q59 : 51 ≤ V46 69 3 ∧ V46 69 3 ≤ 51 := by (have e : V46 69 3 = 51 := e55); rw [e]; exact ⟨by decide, by decide⟩
                exact pm_iret hC hR (pm_narZ (by omega)) ⟨1, rfl, ⟨by omega, by omega⟩, hV51, hF54, q59, hT⟩ dX6_readStatement_115
          · skip
            replace hT := hT.trans (if_neg c36)
            refine pm_aload_n hC 0 (by decide) dX6_readStatement_85 rfl ?_
            have q63 : 51 ≤ V0 69 3 ∧ V0 69 3 ≤ 51 := by (have e : V0 69 3 = 51 := en0); rw [e]; exact ⟨by decide, by decide⟩
            refine pm_callV (ci := 6) (as := []) (st := []) hC 69 fC_X6_readHold_51 lm_X6_87 li_X6_readHold (by decide) (by decide) rfl rfl rfl (by decide) rfl rfl (Nat.le_of_ble_eq_true rfl) ⟨Nat.le_refl _, Or.inl rfl⟩ dX6_readStatement_86 ⟨rfl, hV0, q63⟩ (fun r60 V61 hp62 => ?_)
            obtain ⟨y64, rfl, b65, hV66, hF67, hE68⟩ := hp62
            replace hT := hT.trans (pf_call_eq hE68)
            change pm_J X 89 [(0, (3, 69))] [(0, y64)] 118 V61
            have hF69 := pm_fr.tr (pm_fr.rf (ws := [3, 51, 52, 53, 54, 55, 56, 69, 70, 71]) (V := V0)) hF67 (by decide)
            have e70 : V61 69 3 = 51 := by rw [hF67 69 (by decide)]; exact en0
            have e71 : V61 69 0 = 3 := by rw [hF67 69 (by decide)]; exact e1
            have q72 : 51 ≤ V61 69 3 ∧ V61 69 3 ≤ 51 := by (have e : V61 69 3 = 51 := e70); rw [e]; exact ⟨by decide, by decide⟩
            exact pm_iret hC hR (pm_narZ (by omega)) ⟨y64, rfl, ⟨by omega, by omega⟩, hV66, hF69, q72, hT⟩ dX6_readStatement_89
        · skip
          replace hT := hT.trans (if_neg c29)
          refine pm_aload_n hC 0 (by decide) dX6_readStatement_67 rfl ?_
          have q76 : 51 ≤ V0 69 3 ∧ V0 69 3 ≤ 51 := by (have e : V0 69 3 = 51 := en0); rw [e]; exact ⟨by decide, by decide⟩
          refine pm_callV (ci := 6) (as := []) (st := []) hC 69 fC_X6_readOdds_51 lm_X6_82 li_X6_readOdds (by decide) (by decide) rfl rfl rfl (by decide) rfl rfl (Nat.le_of_ble_eq_true rfl) ⟨Nat.le_refl _, Or.inl rfl⟩ dX6_readStatement_68 ⟨rfl, hV0, q76⟩ (fun r73 V74 hp75 => ?_)
          obtain ⟨y77, rfl, b78, hV79, hF80, hq81, hE82⟩ := hp75
          replace hT := hT.trans (pf_call_eq hE82)
          change pm_J X 71 [(0, (3, 69))] [(0, y77)] 118 V74
          have hF83 := pm_fr.tr (pm_fr.rf (ws := [3, 51, 52, 53, 54, 55, 56, 69, 70, 71]) (V := V0)) hF80 (by decide)
          obtain ⟨z84, ez85⟩ : ∃ z, V74 69 3 = z := ⟨_, rfl⟩
          rw [ez85] at hq81
          have ez85n : V74 69 3 = 51 := by rw [ez85]; omega
          have q86 : 51 ≤ V74 69 3 ∧ V74 69 3 ≤ 51 := by (have e : V74 69 3 = 51 := ez85n); rw [e]; exact ⟨by decide, by decide⟩
          exact pm_iret hC hR (pm_narZ (by omega)) ⟨y77, rfl, ⟨by omega, by omega⟩, hV79, hF83, q86, hT⟩ dX6_readStatement_71
      · skip
        replace hT := hT.trans (if_neg c22)
        refine pm_aload_n hC 0 (by decide) dX6_readStatement_49 rfl ?_
        have q90 : 51 ≤ V0 69 3 ∧ V0 69 3 ≤ 51 := by (have e : V0 69 3 = 51 := en0); rw [e]; exact ⟨by decide, by decide⟩
        refine pm_callV (ci := 6) (as := []) (st := []) hC 69 fC_X6_readFace_51 lm_X6_77 li_X6_readFace (by decide) (by decide) rfl rfl rfl (by decide) rfl rfl (Nat.le_of_ble_eq_true rfl) ⟨Nat.le_refl _, Or.inl rfl⟩ dX6_readStatement_50 ⟨rfl, hV0, q90⟩ (fun r87 V88 hp89 => ?_)
        obtain ⟨y91, rfl, b92, hV93, hF94, hq95, hE96⟩ := hp89
        replace hT := hT.trans (pf_call_eq hE96)
        change pm_J X 53 [(0, (3, 69))] [(0, y91)] 118 V88
        have hF97 := pm_fr.tr (pm_fr.rf (ws := [3, 51, 52, 53, 54, 55, 56, 69, 70, 71]) (V := V0)) hF94 (by decide)
        obtain ⟨z98, ez99⟩ : ∃ z, V88 69 3 = z := ⟨_, rfl⟩
        rw [ez99] at hq95
        have ez99n : V88 69 3 = 51 := by rw [ez99]; omega
        have q100 : 51 ≤ V88 69 3 ∧ V88 69 3 ≤ 51 := by (have e : V88 69 3 = 51 := ez99n); rw [e]; exact ⟨by decide, by decide⟩
        exact pm_iret hC hR (pm_narZ (by omega)) ⟨y91, rfl, ⟨by omega, by omega⟩, hV93, hF97, q100, hT⟩ dX6_readStatement_53
    · skip
      replace hT := hT.trans (if_neg c15)
      refine pm_aload_n hC 0 (by decide) dX6_readStatement_31 rfl ?_
      have q104 : 51 ≤ V0 69 3 ∧ V0 69 3 ≤ 51 := by (have e : V0 69 3 = 51 := en0); rw [e]; exact ⟨by decide, by decide⟩
      refine pm_callV (ci := 6) (as := []) (st := []) hC 69 fC_X6_readVoice_51 lm_X6_72 li_X6_readVoice (by decide) (by decide) rfl rfl rfl (by decide) rfl rfl (Nat.le_of_ble_eq_true rfl) ⟨Nat.le_refl _, Or.inl rfl⟩ dX6_readStatement_32 ⟨rfl, hV0, q104⟩ (fun r101 V102 hp103 => ?_)
      obtain ⟨y105, rfl, b106, hV107, hF108, hq109, hE110⟩ := hp103
      replace hT := hT.trans (pf_call_eq hE110)
      change pm_J X 35 [(0, (3, 69))] [(0, y105)] 118 V102
      have hF111 := pm_fr.tr (pm_fr.rf (ws := [3, 51, 52, 53, 54, 55, 56, 69, 70, 71]) (V := V0)) hF108 (by decide)
      obtain ⟨z112, ez113⟩ : ∃ z, V102 69 3 = z := ⟨_, rfl⟩
      rw [ez113] at hq109
      have ez113n : V102 69 3 = 51 := by rw [ez113]; omega
      have q114 : 51 ≤ V102 69 3 ∧ V102 69 3 ≤ 51 := by (have e : V102 69 3 = 51 := ez113n); rw [e]; exact ⟨by decide, by decide⟩
      exact pm_iret hC hR (pm_narZ (by omega)) ⟨y105, rfl, ⟨by omega, by omega⟩, hV107, hF111, q114, hT⟩ dX6_readStatement_35
  · skip
    replace hT := hT.trans (if_neg c8)
    refine pm_aload_n hC 0 (by decide) dX6_readStatement_13 rfl ?_
    have q118 : 51 ≤ V0 69 3 ∧ V0 69 3 ≤ 51 := by (have e : V0 69 3 = 51 := en0); rw [e]; exact ⟨by decide, by decide⟩
    refine pm_callV (ci := 6) (as := []) (st := []) hC 69 fC_X6_readSound_51 lm_X6_67 li_X6_readSound (by decide) (by decide) rfl rfl rfl (by decide) rfl rfl (Nat.le_of_ble_eq_true rfl) ⟨Nat.le_refl _, Or.inl rfl⟩ dX6_readStatement_14 ⟨rfl, hV0, q118⟩ (fun r115 V116 hp117 => ?_)
    obtain ⟨y119, rfl, b120, hV121, hF122, hE123⟩ := hp117
    replace hT := hT.trans (pf_call_eq hE123)
    change pm_J X 17 [(0, (3, 69))] [(0, y119)] 118 V116
    have hF124 := pm_fr.tr (pm_fr.rf (ws := [3, 51, 52, 53, 54, 55, 56, 69, 70, 71]) (V := V0)) hF122 (by decide)
    have e125 : V116 69 3 = 51 := by rw [hF122 69 (by decide)]; exact en0
    have e126 : V116 69 0 = 3 := by rw [hF122 69 (by decide)]; exact e1
    have q127 : 51 ≤ V116 69 3 ∧ V116 69 3 ≤ 51 := by (have e : V116 69 3 = 51 := e125); rw [e]; exact ⟨by decide, by decide⟩
    exact pm_iret hC hR (pm_narZ (by omega)) ⟨y119, rfl, ⟨by omega, by omega⟩, hV121, hF124, q127, hT⟩ dX6_readStatement_17
set_option maxHeartbeats 4000000 in
set_option maxRecDepth 100000 in
theorem fC_X5_clear_51  : pm_K 1 yX5_clear cX5_clear 1 none (fun av V => av = [(3, 51)] ∧ pm_ok 0 90 V) (fun _ V r V' => r = none ∧ pm_ok 0 90 V' ∧ pm_fr [51] V V' ∧ F_X5_clear 51 V = (0, V')) := by
  refine pm_MT.of (by decide) ⟨Nat.le_refl _, by decide⟩ (fun av V h => by rw [h.1]; exact (by decide : pm_words [(3, 0)] ≤ 1)) ?_
  rintro X av V0 hC - hR ⟨rfl, hV0⟩
  change pm_J X 0 [(0, (3, 51))] [] 118 V0
  have hT := F_X5_clear_eq 51 V0
  refine pm_aload_n hC 0 (by decide) dX5_clear_0 rfl ?_
  refine pm_iconst (v := 0) hC dX5_clear_1 ?_
  refine pm_putf hC 51 fl_X5_27 rfl rfl rfl (by decide) rfl trivial dX5_clear_2 ?_
  refine pm_aload_n hC 0 (by decide) dX5_clear_5 rfl ?_
  refine pm_iconst (v := 0) hC dX5_clear_6 ?_
  refine pm_putf hC 51 fl_X5_31 rfl rfl rfl (by decide) rfl trivial dX5_clear_7 ?_
  refine pm_aload_n hC 0 (by decide) dX5_clear_10 rfl ?_
  refine pm_iconst (v := 0) hC dX5_clear_11 ?_
  refine pm_putf hC 51 fl_X5_34 rfl rfl rfl (by decide) rfl trivial dX5_clear_12 ?_
  refine pm_aload_n hC 0 (by decide) dX5_clear_15 rfl ?_
  refine pm_iconst (v := 0) hC dX5_clear_16 ?_
  refine pm_putf hC 51 fl_X5_37 rfl rfl rfl (by decide) rfl trivial dX5_clear_17 ?_
  refine pm_aload_n hC 0 (by decide) dX5_clear_20 rfl ?_
  refine pm_iconst (v := 0) hC dX5_clear_21 ?_
  refine pm_putf hC 51 fl_X5_40 rfl rfl rfl (by decide) rfl trivial dX5_clear_22 ?_
  refine pm_aload_n hC 0 (by decide) dX5_clear_25 rfl ?_
  refine pm_bipush (v := 16) hC dX5_clear_26 (by decide) ?_
  refine pm_putf hC 51 fl_X5_43 rfl rfl rfl (by decide) rfl trivial dX5_clear_28 ?_
  refine pm_aload_n hC 0 (by decide) dX5_clear_31 rfl ?_
  refine pm_bipush (v := 99) hC dX5_clear_32 (by decide) ?_
  refine pm_putf hC 51 fl_X5_46 rfl rfl rfl (by decide) rfl trivial dX5_clear_34 ?_
  refine pm_aload_n hC 0 (by decide) dX5_clear_37 rfl ?_
  refine pm_iconst (v := 0) hC dX5_clear_38 ?_
  refine pm_putf hC 51 fl_X5_49 rfl rfl rfl (by decide) rfl trivial dX5_clear_39 ?_
  exact pm_vret hC hR ⟨rfl, ((((((((hV0.put 51 0 (x := 0) (lo := 0) (hi := 9) rfl ⟨by decide, by decide⟩).put 51 4 (x := 0) (lo := 0) (hi := 60) rfl ⟨by decide, by decide⟩).put 51 5 (x := 0) (lo := 0) (hi := 9) rfl ⟨by decide, by decide⟩).put 51 6 (x := 0) (lo := 0) (hi := 60) rfl ⟨by decide, by decide⟩).put 51 7 (x := 0) (lo := 0) (hi := 9) rfl ⟨by decide, by decide⟩).put 51 8 (x := 16) (lo := 0) (hi := 16) rfl ⟨by decide, by decide⟩).put 51 9 (x := 99) (lo := 0) (hi := 99) rfl ⟨by decide, by decide⟩).put 51 10 (x := 0) (lo := 0) (hi := 12) rfl ⟨by decide, by decide⟩), (((((((((pm_fr.rf (ws := [51]) (V := V0)).up 51 0 0 rfl).up 51 4 0 rfl).up 51 5 0 rfl).up 51 6 0 rfl).up 51 7 0 rfl).up 51 8 16 rfl).up 51 9 99 rfl).up 51 10 0 rfl), hT⟩ dX5_clear_42
set_option maxHeartbeats 4000000 in
set_option maxRecDepth 100000 in
theorem fC_X5_isWhole_51  : pm_K 1 yX5_isWhole cX5_isWhole 1 (some .boolean) (fun av V => av = [(3, 51)] ∧ pm_ok 0 90 V) (fun _ V r V' => ∃ y, r = some (0, y) ∧ (0 ≤ y ∧ y ≤ 1) ∧ V = V' ∧ F_X5_isWhole 51 V = (y, V)) := by
  refine pm_MT.of (by decide) ⟨Nat.le_refl _, by decide⟩ (fun av V h => by rw [h.1]; exact (by decide : pm_words [(3, 0)] ≤ 1)) ?_
  rintro X av V0 hC - hR ⟨rfl, hV0⟩
  change pm_J X 0 [(0, (3, 51))] [] 118 V0
  have hT := F_X5_isWhole_eq 51 V0
  refine pm_aload_n hC 0 (by decide) dX5_isWhole_0 rfl ?_
  obtain ⟨y1, e2⟩ : ∃ y, V0 51 0 = y := ⟨_, rfl⟩
  have b3 := hV0.get 51 0 (lo := 0) (hi := 9) (by decide) (by decide) rfl
  rw [e2] at b3
  replace hT := hT.trans (pf_let_eq e2)
  refine pm_getf (v := y1) hC 51 fl_X5_27 rfl rfl (by decide) rfl e2 dX5_isWhole_1 ?_
  refine pm_iconst (v := 2) hC dX5_isWhole_4 ?_
  refine pm_icmp_lt (tgt := 26) hC ⟨by omega, by omega⟩ ⟨by decide, by decide⟩ dX5_isWhole_5 (by decide) (fun c4 => ?_) (fun c4 => ?_)
  · skip
    replace hT := hT.trans (if_pos c4)
    refine pm_iconst (v := 0) hC dX5_isWhole_26 ?_
    exact pm_iret hC hR (pm_narZ (by omega)) ⟨0, rfl, ⟨by omega, by omega⟩, rfl, hT⟩ dX5_isWhole_27
  · skip
    replace hT := hT.trans (if_neg (Int.not_lt.mpr c4))
    refine pm_aload_n hC 0 (by decide) dX5_isWhole_8 rfl ?_
    obtain ⟨y5, e6⟩ : ∃ y, V0 51 4 = y := ⟨_, rfl⟩
    have b7 := hV0.get 51 4 (lo := 0) (hi := 60) (by decide) (by decide) rfl
    rw [e6] at b7
    replace hT := hT.trans (pf_let_eq e6)
    refine pm_getf (v := y5) hC 51 fl_X5_31 rfl rfl (by decide) rfl e6 dX5_isWhole_9 ?_
    refine pm_if_le (tgt := 26) hC ⟨by omega, by omega⟩ dX5_isWhole_12 (by decide) (fun c8 => ?_) (fun c8 => ?_)
    · skip
      replace hT := hT.trans (if_pos c8)
      refine pm_iconst (v := 0) hC dX5_isWhole_26 ?_
      exact pm_iret hC hR (pm_narZ (by omega)) ⟨0, rfl, ⟨by omega, by omega⟩, rfl, hT⟩ dX5_isWhole_27
    · skip
      replace hT := hT.trans (if_neg (Int.not_le.mpr c8))
      refine pm_aload_n hC 0 (by decide) dX5_isWhole_15 rfl ?_
      obtain ⟨y9, e10⟩ : ∃ y, V0 51 6 = y := ⟨_, rfl⟩
      have b11 := hV0.get 51 6 (lo := 0) (hi := 60) (by decide) (by decide) rfl
      rw [e10] at b11
      replace hT := hT.trans (pf_let_eq e10)
      refine pm_getf (v := y9) hC 51 fl_X5_37 rfl rfl (by decide) rfl e10 dX5_isWhole_16 ?_
      refine pm_if_le (tgt := 26) hC ⟨by omega, by omega⟩ dX5_isWhole_19 (by decide) (fun c12 => ?_) (fun c12 => ?_)
      · skip
        replace hT := hT.trans (if_pos c12)
        refine pm_iconst (v := 0) hC dX5_isWhole_26 ?_
        exact pm_iret hC hR (pm_narZ (by omega)) ⟨0, rfl, ⟨by omega, by omega⟩, rfl, hT⟩ dX5_isWhole_27
      · skip
        replace hT := hT.trans (if_neg (Int.not_le.mpr c12))
        refine pm_iconst (v := 1) hC dX5_isWhole_22 ?_
        refine pm_goto (tgt := 27) hC dX5_isWhole_23 (by decide) ?_
        exact pm_iret hC hR (pm_narZ (by omega)) ⟨1, rfl, ⟨by omega, by omega⟩, rfl, hT⟩ dX5_isWhole_27
set_option maxHeartbeats 4000000 in
set_option maxRecDepth 100000 in
theorem fC_X6_read_51  : pm_K 6 yX6_read cX6_read 4 (some .int) (fun av V => av = [(3, 69), (3, 51)] ∧ pm_ok 0 90 V) (fun _ V r V' => ∃ y, r = some (0, y) ∧ ((-1) ≤ y ∧ y ≤ 500) ∧ pm_ok 0 90 V' ∧ pm_fr [3, 51, 52, 53, 54, 55, 56, 69, 70, 71] V V' ∧ F_X6_read 51 V = (y, V')) := by
  refine pm_MT.of (by decide) ⟨Nat.le_refl _, by decide⟩ (fun av V h => by rw [h.1]; exact (by decide : pm_words [(3, 0), (3, 0)] ≤ 4)) ?_
  rintro X av V0 hC - hR ⟨rfl, hV0⟩
  change pm_J X 0 [(0, (3, 69)), (1, (3, 51))] [] 118 V0
  have hT := F_X6_read_eq 51 V0
  refine pm_aload_n hC 0 (by decide) dX6_read_0 rfl ?_
  refine pm_aload_n hC 1 (by decide) dX6_read_1 rfl ?_
  refine pm_putf hC 69 fl_X6_23 rfl rfl rfl (by decide) rfl trivial dX6_read_2 ?_
  refine pm_aload_n hC 0 (by decide) dX6_read_5 rfl ?_
  refine pm_getf (v := 51) hC 69 fl_X6_23 rfl rfl (by decide) rfl rfl dX6_read_6 ?_
  refine pm_callV (ci := 5) (as := []) (st := []) hC 51 fC_X5_clear_51 lm_X6_38 li_X5_clear (by decide) (by decide) rfl rfl rfl (by decide) rfl rfl (Nat.le_of_ble_eq_true rfl) ⟨Nat.le_refl _, Or.inl rfl⟩ dX6_read_9 ⟨rfl, (hV0.put2 69 3 (x := 51) (lo := 45) (hi := 51) rfl ⟨by omega, by decide⟩)⟩ (fun r1 V2 hp3 => ?_)
  obtain ⟨rfl, hV4, hF5, hE6⟩ := hp3
  replace hT := hT.trans (pf_call_eq hE6)
  change pm_J X 12 [(0, (3, 69)), (1, (3, 51))] [] 118 V2
  have hF7 := pm_fr.tr ((pm_fr.rf (ws := [3, 51, 52, 53, 54, 55, 56, 69, 70, 71]) (V := V0)).up 69 3 51 rfl) hF5 (by decide)
  have e8 : V2 69 3 = 51 := by rw [hF5 69 (by decide)]; rfl
  refine pm_aload_n hC 0 (by decide) dX6_read_12 rfl ?_
  refine pm_iconst (v := 0) hC dX6_read_13 ?_
  refine pm_putf hC 69 fl_X6_27 rfl rfl rfl (by decide) rfl (by show _ = (0 : Int) ∨ _ = (1 : Int); omega) dX6_read_14 ?_
  refine pm_aload_n hC 0 (by decide) dX6_read_17 rfl ?_
  have e9 : V2 69 0 = 3 := hV4.one 69 0 (by decide) (by decide) rfl
  refine pm_getf (v := 3) hC 69 fl_X6_9 rfl rfl (by decide) rfl e9 dX6_read_18 ?_
  refine pm_callV (ci := 9) (as := []) (st := []) hC 3 fC_X9_begin lm_X6_43 li_X9_begin (by decide) (by decide) rfl rfl rfl (by decide) rfl rfl (Nat.le_of_ble_eq_true rfl) ⟨Nat.le_refl _, Or.inl rfl⟩ dX6_read_21 ⟨rfl, (hV4.put 69 4 (x := 0) (lo := 0) (hi := 1) rfl ⟨by decide, by decide⟩)⟩ (fun r10 V11 hp12 => ?_)
  obtain ⟨rfl, hV13, hF14, hE15⟩ := hp12
  replace hT := hT.trans (pf_call_eq hE15)
  change pm_J X 24 [(0, (3, 69)), (1, (3, 51))] [] 118 V11
  have hF16 := pm_fr.tr (hF7.up 69 4 0 rfl) hF14 (by decide)
  have e17 : V11 69 3 = 51 := by rw [hF14 69 (by decide)]; exact e8
  have e18 : V11 69 0 = 3 := by rw [hF14 69 (by decide)]; exact e9
  have e19 : V11 69 4 = 0 := by rw [hF14 69 (by decide)]; rfl
  refine pm_iconst (v := 1) hC dX6_read_24 ?_
  refine pm_istore_n (lv' := [(2, (0, 1)), (0, (3, 69)), (1, (3, 51))]) hC dX6_read_25 (by decide) rfl ?_
  refine pm_iconst (v := 0) hC dX6_read_26 ?_
  refine pm_istore_n (lv' := [(3, (0, 0)), (2, (0, 1)), (0, (3, 69)), (1, (3, 51))]) hC dX6_read_27 (by decide) rfl ?_
  obtain ⟨B28, hB29, hT⟩ := pf_loop hT
  have L31 : ∀ (N33 : Nat) (x20 : Int) (x22 : Int) (V24 : pm_M), (0 ≤ x20 ∧ x20 ≤ 1) → (0 ≤ x22 ∧ x22 ≤ 500) → pm_ok 0 90 V24 → pm_fr [3, 51, 52, 53, 54, 55, 56, 69, 70, 71] V0 V24 → V24 69 3 = 51 → F_X6_read 51 V0 = pf_val ((0 : Int), V0) B28 (x20, x22, V24) → (Int.toNat (500 - x22)) = N33 → pm_J X 28 [(0, (3, 69)), (1, (3, 51)), (2, (0, x20)), (3, (0, x22))] [] 118 V24 := by
    intro N33
    induction N33 using Nat.strongRecOn with
    | _ N33 ih34 =>
    intro x20 x22 V24 b21 b23 hV25 hF26 e27 hT hm32
    have hb30 := congrFun hB29 (x20, x22, V24)
    refine pm_iload_n hC 3 dX6_read_28 rfl ?_
    refine pm_sipush (v := 500) hC dX6_read_29 (by decide) ?_
    refine pm_icmp_ge (tgt := 60) hC ⟨by omega, by omega⟩ ⟨by decide, by decide⟩ dX6_read_32 (by decide) (fun c35 => ?_) (fun c35 => ?_)
    · skip
      replace hb30 := hb30.trans (if_pos c35)
      refine pm_iload_n hC 2 dX6_read_60 rfl ?_
      refine pm_if_eq (tgt := 78) hC ⟨by omega, by omega⟩ dX6_read_61 (by decide) (fun c36 => ?_) (fun c36 => ?_)
      · skip
        replace hb30 := hb30.trans (if_pos c36)
        refine pm_aload_n hC 0 (by decide) dX6_read_78 rfl ?_
        have e37 : V24 69 0 = 3 := hV25.one 69 0 (by decide) (by decide) rfl
        refine pm_getf (v := 3) hC 69 fl_X6_9 rfl rfl (by decide) rfl e37 dX6_read_79 ?_
        obtain ⟨y38, e39⟩ : ∃ y, V24 3 2 = y := ⟨_, rfl⟩
        have b40 := hV25.get 3 2 (lo := 0) (hi := 500) (by decide) (by decide) rfl
        rw [e39] at b40
        replace hb30 := hb30.trans (pf_let_eq e39)
        refine pm_getf (v := y38) hC 3 fl_X6_58 rfl rfl (by decide) rfl e39 dX6_read_82 ?_
        have hT := hT.trans (pf_val_inr hb30)
        exact pm_iret hC hR pm_nar0 ⟨y38, rfl, ⟨by omega, by omega⟩, hV25, hF26, hT⟩ dX6_read_85
      · skip
        replace hb30 := hb30.trans (if_neg c36)
        refine pm_aload_n hC 0 (by decide) dX6_read_64 rfl ?_
        refine pm_getf (v := 51) hC 69 fl_X6_23 rfl rfl (by decide) rfl e27 dX6_read_65 ?_
        refine pm_callV (ci := 5) (as := []) (st := []) hC 51 fC_X5_isWhole_51 lm_X6_55 li_X5_isWhole (by decide) (by decide) rfl rfl rfl (by decide) rfl rfl (Nat.le_of_ble_eq_true rfl) ⟨Nat.le_refl _, Or.inl rfl⟩ dX6_read_68 ⟨rfl, hV25⟩ (fun r41 V42 hp43 => ?_)
        obtain ⟨y44, rfl, b45, rfl, hE46⟩ := hp43
        replace hb30 := hb30.trans (pf_call_eq hE46)
        change pm_J X 71 [(0, (3, 69)), (1, (3, 51)), (2, (0, x20)), (3, (0, x22))] [(0, y44)] 118 V24
        refine pm_if_eq (tgt := 78) hC ⟨by omega, by omega⟩ dX6_read_71 (by decide) (fun c47 => ?_) (fun c47 => ?_)
        · skip
          replace hb30 := hb30.trans (if_pos c47)
          refine pm_aload_n hC 0 (by decide) dX6_read_78 rfl ?_
          have e48 : V24 69 0 = 3 := hV25.one 69 0 (by decide) (by decide) rfl
          refine pm_getf (v := 3) hC 69 fl_X6_9 rfl rfl (by decide) rfl e48 dX6_read_79 ?_
          obtain ⟨y49, e50⟩ : ∃ y, V24 3 2 = y := ⟨_, rfl⟩
          have b51 := hV25.get 3 2 (lo := 0) (hi := 500) (by decide) (by decide) rfl
          rw [e50] at b51
          replace hb30 := hb30.trans (pf_let_eq e50)
          refine pm_getf (v := y49) hC 3 fl_X6_58 rfl rfl (by decide) rfl e50 dX6_read_82 ?_
          have hT := hT.trans (pf_val_inr hb30)
          exact pm_iret hC hR pm_nar0 ⟨y49, rfl, ⟨by omega, by omega⟩, hV25, hF26, hT⟩ dX6_read_85
        · skip
          replace hb30 := hb30.trans (if_neg c47)
          refine pm_iconst (v := (-1)) hC dX6_read_74 ?_
          refine pm_goto (tgt := 85) hC dX6_read_75 (by decide) ?_
          have hT := hT.trans (pf_val_inr hb30)
          exact pm_iret hC hR pm_nar0 ⟨(-1), rfl, ⟨by omega, by omega⟩, hV25, hF26, hT⟩ dX6_read_85
    · skip
      replace hb30 := hb30.trans (if_neg (Int.not_le.mpr c35))
      refine pm_iload_n hC 2 dX6_read_35 rfl ?_
      refine pm_if_eq (tgt := 60) hC ⟨by omega, by omega⟩ dX6_read_36 (by decide) (fun c52 => ?_) (fun c52 => ?_)
      · skip
        replace hb30 := hb30.trans (if_pos c52)
        refine pm_iload_n hC 2 dX6_read_60 rfl ?_
        refine pm_if_eq (tgt := 78) hC ⟨by omega, by omega⟩ dX6_read_61 (by decide) (fun c53 => ?_) (fun c53 => ?_)
        · skip
          replace hb30 := hb30.trans (if_pos c53)
          refine pm_aload_n hC 0 (by decide) dX6_read_78 rfl ?_
          have e54 : V24 69 0 = 3 := hV25.one 69 0 (by decide) (by decide) rfl
          refine pm_getf (v := 3) hC 69 fl_X6_9 rfl rfl (by decide) rfl e54 dX6_read_79 ?_
          obtain ⟨y55, e56⟩ : ∃ y, V24 3 2 = y := ⟨_, rfl⟩
          have b57 := hV25.get 3 2 (lo := 0) (hi := 500) (by decide) (by decide) rfl
          rw [e56] at b57
          replace hb30 := hb30.trans (pf_let_eq e56)
          refine pm_getf (v := y55) hC 3 fl_X6_58 rfl rfl (by decide) rfl e56 dX6_read_82 ?_
          have hT := hT.trans (pf_val_inr hb30)
          exact pm_iret hC hR pm_nar0 ⟨y55, rfl, ⟨by omega, by omega⟩, hV25, hF26, hT⟩ dX6_read_85
        · skip
          replace hb30 := hb30.trans (if_neg c53)
          exfalso; omega
      · skip
        replace hb30 := hb30.trans (if_neg c52)
        refine pm_aload_n hC 0 (by decide) dX6_read_39 rfl ?_
        have e58 : V24 69 0 = 3 := hV25.one 69 0 (by decide) (by decide) rfl
        refine pm_getf (v := 3) hC 69 fl_X6_9 rfl rfl (by decide) rfl e58 dX6_read_40 ?_
        obtain ⟨y59, e60⟩ : ∃ y, V24 3 1 = y := ⟨_, rfl⟩
        have b61 := hV25.get 3 1 (lo := 0) (hi := 4) (by decide) (by decide) rfl
        rw [e60] at b61
        replace hb30 := hb30.trans (pf_let_eq e60)
        refine pm_getf (v := y59) hC 3 fl_X6_48 rfl rfl (by decide) rfl e60 dX6_read_43 ?_
        refine pm_if_eq (tgt := 60) hC ⟨by omega, by omega⟩ dX6_read_46 (by decide) (fun c62 => ?_) (fun c62 => ?_)
        · skip
          replace hb30 := hb30.trans (if_pos c62)
          refine pm_iload_n hC 2 dX6_read_60 rfl ?_
          refine pm_if_eq (tgt := 78) hC ⟨by omega, by omega⟩ dX6_read_61 (by decide) (fun c63 => ?_) (fun c63 => ?_)
          · skip
            replace hb30 := hb30.trans (if_pos c63)
            exfalso; omega
          · skip
            replace hb30 := hb30.trans (if_neg c63)
            refine pm_aload_n hC 0 (by decide) dX6_read_64 rfl ?_
            refine pm_getf (v := 51) hC 69 fl_X6_23 rfl rfl (by decide) rfl e27 dX6_read_65 ?_
            refine pm_callV (ci := 5) (as := []) (st := []) hC 51 fC_X5_isWhole_51 lm_X6_55 li_X5_isWhole (by decide) (by decide) rfl rfl rfl (by decide) rfl rfl (Nat.le_of_ble_eq_true rfl) ⟨Nat.le_refl _, Or.inl rfl⟩ dX6_read_68 ⟨rfl, hV25⟩ (fun r64 V65 hp66 => ?_)
            obtain ⟨y67, rfl, b68, rfl, hE69⟩ := hp66
            replace hb30 := hb30.trans (pf_call_eq hE69)
            change pm_J X 71 [(0, (3, 69)), (1, (3, 51)), (2, (0, x20)), (3, (0, x22))] [(0, y67)] 118 V24
            refine pm_if_eq (tgt := 78) hC ⟨by omega, by omega⟩ dX6_read_71 (by decide) (fun c70 => ?_) (fun c70 => ?_)
            · skip
              replace hb30 := hb30.trans (if_pos c70)
              refine pm_aload_n hC 0 (by decide) dX6_read_78 rfl ?_
              refine pm_getf (v := 3) hC 69 fl_X6_9 rfl rfl (by decide) rfl e58 dX6_read_79 ?_
              obtain ⟨y71, e72⟩ : ∃ y, V24 3 2 = y := ⟨_, rfl⟩
              have b73 := hV25.get 3 2 (lo := 0) (hi := 500) (by decide) (by decide) rfl
              rw [e72] at b73
              replace hb30 := hb30.trans (pf_let_eq e72)
              refine pm_getf (v := y71) hC 3 fl_X6_58 rfl rfl (by decide) rfl e72 dX6_read_82 ?_
              have hT := hT.trans (pf_val_inr hb30)
              exact pm_iret hC hR pm_nar0 ⟨y71, rfl, ⟨by omega, by omega⟩, hV25, hF26, hT⟩ dX6_read_85
            · skip
              replace hb30 := hb30.trans (if_neg c70)
              refine pm_iconst (v := (-1)) hC dX6_read_74 ?_
              refine pm_goto (tgt := 85) hC dX6_read_75 (by decide) ?_
              have hT := hT.trans (pf_val_inr hb30)
              exact pm_iret hC hR pm_nar0 ⟨(-1), rfl, ⟨by omega, by omega⟩, hV25, hF26, hT⟩ dX6_read_85
        · skip
          replace hb30 := hb30.trans (if_neg c62)
          refine pm_aload_n hC 0 (by decide) dX6_read_49 rfl ?_
          have q77 : 51 ≤ V24 69 3 ∧ V24 69 3 ≤ 51 := by (have e : V24 69 3 = 51 := e27); rw [e]; exact ⟨by decide, by decide⟩
          refine pm_callV (ci := 6) (as := []) (st := []) hC 69 fC_X6_readStatement_51 lm_X6_51 li_X6_readStatement (by decide) (by decide) rfl rfl rfl (by decide) rfl rfl (Nat.le_of_ble_eq_true rfl) ⟨Nat.le_refl _, Or.inl rfl⟩ dX6_read_50 ⟨rfl, hV25, q77⟩ (fun r74 V75 hp76 => ?_)
          obtain ⟨y78, rfl, b79, hV80, hF81, hq82, hE83⟩ := hp76
          replace hb30 := hb30.trans (pf_call_eq hE83)
          change pm_J X 53 [(0, (3, 69)), (1, (3, 51)), (2, (0, x20)), (3, (0, x22))] [(0, y78)] 118 V75
          have hF84 := pm_fr.tr hF26 hF81 (by decide)
          obtain ⟨z85, ez86⟩ : ∃ z, V75 69 3 = z := ⟨_, rfl⟩
          rw [ez86] at hq82
          have ez86n : V75 69 3 = 51 := by rw [ez86]; omega
          refine pm_istore_n (lv' := [(2, (0, y78)), (0, (3, 69)), (1, (3, 51)), (3, (0, x22))]) hC dX6_read_53 (by decide) rfl ?_
          obtain ⟨x87, ei88⟩ : ∃ y : Int, x22 + 1 = y := ⟨_, rfl⟩
          replace hb30 := hb30.trans (pf_let_eq ei88)
          refine pm_iinc (y := x87) (lv' := [(3, (0, x87)), (2, (0, y78)), (0, (3, 69)), (1, (3, 51))]) hC 3 dX6_read_54 (by decide) rfl ei88 rfl ?_
          refine pm_goto (tgt := 28) hC dX6_read_57 (by decide) ?_
          refine pm_lvsub [2, 3, 1, 0] (lv' := [(0, (3, 69)), (1, (3, 51)), (2, (0, y78)), (3, (0, x87))]) rfl ?_
          exact ih34 _ (by omega) y78 x87 V75 ⟨by omega, by omega⟩ ⟨by omega, by omega⟩ hV80 hF84 ez86n (hT.trans (pf_val_inl hb30)) rfl
  refine pm_lvsub [2, 3, 1, 0] (lv' := [(0, (3, 69)), (1, (3, 51)), (2, (0, 1)), (3, (0, 0))]) rfl ?_
  exact L31 _ 1 0 V11 ⟨by decide, by decide⟩ ⟨by decide, by decide⟩ hV13 hF16 e17 hT rfl
