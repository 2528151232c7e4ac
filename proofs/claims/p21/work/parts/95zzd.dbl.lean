noncomputable def F_X11_keepsTried (V0 : pm_M) : Int × pm_M := (if V0 0 13 = 84 then ((if V0 0 12 = 84 then (pf_call (F_X4_compareProductsS 84 V0) fun y7 V5 => (if 0 < y7 then ((1, (pm_up (pm_up V5 0 12 84) 0 13 84))) else ((0, V5)))) else (pf_call (F_X4_compareProducts 84 87 V0) fun y20 V18 => (if 0 < y20 then ((1, (pm_up (pm_up V18 0 12 84) 0 13 87))) else ((0, V18)))))) else ((if V0 0 12 = 84 then (pf_call (F_X4_compareProducts 87 84 V0) fun y34 V32 => (if 0 < y34 then ((1, (pm_up (pm_up V32 0 12 87) 0 13 84))) else ((0, V32)))) else (pf_call (F_X4_compareProductsS 87 V0) fun y47 V45 => (if 0 < y47 then ((1, (pm_up (pm_up V45 0 12 87) 0 13 87))) else ((0, V45)))))))
theorem F_X11_keepsTried_eq (V0 : pm_M) : F_X11_keepsTried V0 = (if V0 0 13 = 84 then ((if V0 0 12 = 84 then (pf_call (F_X4_compareProductsS 84 V0) fun y7 V5 => (if 0 < y7 then ((1, (pm_up (pm_up V5 0 12 84) 0 13 84))) else ((0, V5)))) else (pf_call (F_X4_compareProducts 84 87 V0) fun y20 V18 => (if 0 < y20 then ((1, (pm_up (pm_up V18 0 12 84) 0 13 87))) else ((0, V18)))))) else ((if V0 0 12 = 84 then (pf_call (F_X4_compareProducts 87 84 V0) fun y34 V32 => (if 0 < y34 then ((1, (pm_up (pm_up V32 0 12 87) 0 13 84))) else ((0, V32)))) else (pf_call (F_X4_compareProductsS 87 V0) fun y47 V45 => (if 0 < y47 then ((1, (pm_up (pm_up V45 0 12 87) 0 13 87))) else ((0, V45))))))) := rfl
noncomputable def F_X11_best (a1 : Int) (V0 : pm_M) : Int × pm_M := pf_call (F_X11_hasScene  V0) fun y4 _ => (if y4 = 0 then (((-1), V0)) else (pf_call (F_X11_isPersonOrAll a1 V0) fun y11 _ => (if ¬ (y11 = 0) then ((if V0 0 12 = 84 then (pf_call (F_X11_gather 84 0 a1 V0) fun _ V17 => pf_val ((0 : Int), V0) (fun (q : Int × Int × pm_M) => match q with | (x24, x26, V28) => ((if 7 ≤ x26 then ((.inr (x24, V28))) else ((if V28 0 13 = 84 then (pf_call (F_X11_gather 84 x26 a1 V28) fun _ V41 => pf_call (F_X11_keepsTried  V41) fun y51 V49 => (if y51 = 0 then (pf_let (x26 + 1) fun x58 => (.inl (x24, x58, V49))) else (pf_let (x26 + 1) fun x60 => (.inl (x26, x60, V49))))) else (pf_call (F_X11_gather 87 x26 a1 V28) fun _ V63 => pf_call (F_X11_keepsTried  V63) fun y73 V71 => (if y73 = 0 then (pf_let (x26 + 1) fun x80 => (.inl (x24, x80, V71))) else (pf_let (x26 + 1) fun x82 => (.inl (x26, x82, V71)))))))))) (0, 1, V17)) else (pf_call (F_X11_gather 87 0 a1 V0) fun _ V85 => pf_val ((0 : Int), V0) (fun (q : Int × Int × pm_M) => match q with | (x92, x94, V96) => ((if 7 ≤ x94 then ((.inr (x92, V96))) else ((if V96 0 13 = 84 then (pf_call (F_X11_gather 84 x94 a1 V96) fun _ V109 => pf_call (F_X11_keepsTried  V109) fun y119 V117 => (if y119 = 0 then (pf_let (x94 + 1) fun x126 => (.inl (x92, x126, V117))) else (pf_let (x94 + 1) fun x128 => (.inl (x94, x128, V117))))) else (pf_call (F_X11_gather 87 x94 a1 V96) fun _ V131 => pf_call (F_X11_keepsTried  V131) fun y141 V139 => (if y141 = 0 then (pf_let (x94 + 1) fun x148 => (.inl (x92, x148, V139))) else (pf_let (x94 + 1) fun x150 => (.inl (x94, x150, V139)))))))))) (0, 1, V85)))) else (((-1), V0)))))
theorem F_X11_best_eq (a1 : Int) (V0 : pm_M) : F_X11_best a1 V0 = pf_call (F_X11_hasScene  V0) fun y4 _ => (if y4 = 0 then (((-1), V0)) else (pf_call (F_X11_isPersonOrAll a1 V0) fun y11 _ => (if ¬ (y11 = 0) then ((if V0 0 12 = 84 then (pf_call (F_X11_gather 84 0 a1 V0) fun _ V17 => pf_val ((0 : Int), V0) (fun (q : Int × Int × pm_M) => match q with | (x24, x26, V28) => ((if 7 ≤ x26 then ((.inr (x24, V28))) else ((if V28 0 13 = 84 then (pf_call (F_X11_gather 84 x26 a1 V28) fun _ V41 => pf_call (F_X11_keepsTried  V41) fun y51 V49 => (if y51 = 0 then (pf_let (x26 + 1) fun x58 => (.inl (x24, x58, V49))) else (pf_let (x26 + 1) fun x60 => (.inl (x26, x60, V49))))) else (pf_call (F_X11_gather 87 x26 a1 V28) fun _ V63 => pf_call (F_X11_keepsTried  V63) fun y73 V71 => (if y73 = 0 then (pf_let (x26 + 1) fun x80 => (.inl (x24, x80, V71))) else (pf_let (x26 + 1) fun x82 => (.inl (x26, x82, V71)))))))))) (0, 1, V17)) else (pf_call (F_X11_gather 87 0 a1 V0) fun _ V85 => pf_val ((0 : Int), V0) (fun (q : Int × Int × pm_M) => match q with | (x92, x94, V96) => ((if 7 ≤ x94 then ((.inr (x92, V96))) else ((if V96 0 13 = 84 then (pf_call (F_X11_gather 84 x94 a1 V96) fun _ V109 => pf_call (F_X11_keepsTried  V109) fun y119 V117 => (if y119 = 0 then (pf_let (x94 + 1) fun x126 => (.inl (x92, x126, V117))) else (pf_let (x94 + 1) fun x128 => (.inl (x94, x128, V117))))) else (pf_call (F_X11_gather 87 x94 a1 V96) fun _ V131 => pf_call (F_X11_keepsTried  V131) fun y141 V139 => (if y141 = 0 then (pf_let (x94 + 1) fun x148 => (.inl (x92, x148, V139))) else (pf_let (x94 + 1) fun x150 => (.inl (x94, x150, V139)))))))))) (0, 1, V85)))) else (((-1), V0))))) := rfl
noncomputable def F_X11_trySpans (a1 a2 a3 : Int) (V0 : pm_M) : Int × pm_M := (if V0 0 13 = 84 then (pf_let (V0 7 (a1 : Int).toNat) fun y4 => pf_call (F_X11_gatherOdds 84 a1 a2 a3 y4 V0) fun _ V8 => pf_call (F_X11_keepsTried  V8) fun y20 V18 => (if y20 = 0 then ((0, V18)) else ((0, (pm_up (pm_up V18 0 14 a2) 0 15 a3))))) else (pf_let (V0 7 (a1 : Int).toNat) fun y31 => pf_call (F_X11_gatherOdds 87 a1 a2 a3 y31 V0) fun _ V35 => pf_call (F_X11_keepsTried  V35) fun y47 V45 => (if y47 = 0 then ((0, V45)) else ((0, (pm_up (pm_up V45 0 14 a2) 0 15 a3))))))
theorem F_X11_trySpans_eq (a1 a2 a3 : Int) (V0 : pm_M) : F_X11_trySpans a1 a2 a3 V0 = (if V0 0 13 = 84 then (pf_let (V0 7 (a1 : Int).toNat) fun y4 => pf_call (F_X11_gatherOdds 84 a1 a2 a3 y4 V0) fun _ V8 => pf_call (F_X11_keepsTried  V8) fun y20 V18 => (if y20 = 0 then ((0, V18)) else ((0, (pm_up (pm_up V18 0 14 a2) 0 15 a3))))) else (pf_let (V0 7 (a1 : Int).toNat) fun y31 => pf_call (F_X11_gatherOdds 87 a1 a2 a3 y31 V0) fun _ V35 => pf_call (F_X11_keepsTried  V35) fun y47 V45 => (if y47 = 0 then ((0, V45)) else ((0, (pm_up (pm_up V45 0 14 a2) 0 15 a3)))))) := rfl
noncomputable def F_X11_findOwnSpans (a1 : Int) (V0 : pm_M) : Int × pm_M := (if V0 0 12 = 84 then (pf_let (V0 7 (a1 : Int).toNat) fun y4 => pf_call (F_X11_gatherOdds 84 a1 0 0 y4 (pm_up (pm_up V0 0 14 0) 0 15 0)) fun _ V8 => pf_val ((0 : Int), V0) (fun (q : Int × pm_M) => match q with | (x19, V21) => ((if 24 < x19 then ((.inr (0, V21))) else (pf_val (.inr ((0 : Int), V0)) (fun (q : Int × pm_M) => match q with | (x34, V36) => ((if 12 < x34 then (pf_let (x19 + 1) fun x49 => (.inr (.inl (x49, V36)))) else (pf_let (pm_ab x34) fun y51 => (if (x19 - y51) < 0 then ((if (x19 - y51) ≤ 0 then (pf_let (x34 + 1) fun x56 => (.inl (x56, V36))) else ((.inr (.inr ((0 : Int), V0)))))) else ((if 12 < (x19 - y51) then ((if (x19 - y51) ≤ 0 then ((.inr (.inr ((0 : Int), V0)))) else ((if 12 < (x19 - y51) then (pf_let (x34 + 1) fun x61 => (.inl (x61, V36))) else ((.inr (.inr ((0 : Int), V0)))))))) else (pf_call (F_X11_trySpans a1 x34 (-(x19 - y51)) V36) fun _ V64 => (if (x19 - y51) ≤ 0 then (pf_let (x34 + 1) fun x73 => (.inl (x73, V64))) else ((if 12 < (x19 - y51) then ((.inr (.inr ((0 : Int), V0)))) else (pf_call (F_X11_trySpans a1 x34 (x19 - y51) V64) fun _ V77 => pf_let (x34 + 1) fun x85 => (.inl (x85, V77)))))))))))))) ((-12), V21))))) (1, V8)) else (pf_let (V0 7 (a1 : Int).toNat) fun y89 => pf_call (F_X11_gatherOdds 87 a1 0 0 y89 (pm_up (pm_up V0 0 14 0) 0 15 0)) fun _ V93 => pf_val ((0 : Int), V0) (fun (q : Int × pm_M) => match q with | (x104, V106) => ((if 24 < x104 then ((.inr (0, V106))) else (pf_val (.inr ((0 : Int), V0)) (fun (q : Int × pm_M) => match q with | (x119, V121) => ((if 12 < x119 then (pf_let (x104 + 1) fun x134 => (.inr (.inl (x134, V121)))) else (pf_let (pm_ab x119) fun y136 => (if (x104 - y136) < 0 then ((if (x104 - y136) ≤ 0 then (pf_let (x119 + 1) fun x141 => (.inl (x141, V121))) else ((.inr (.inr ((0 : Int), V0)))))) else ((if 12 < (x104 - y136) then ((if (x104 - y136) ≤ 0 then ((.inr (.inr ((0 : Int), V0)))) else ((if 12 < (x104 - y136) then (pf_let (x119 + 1) fun x146 => (.inl (x146, V121))) else ((.inr (.inr ((0 : Int), V0)))))))) else (pf_call (F_X11_trySpans a1 x119 (-(x104 - y136)) V121) fun _ V149 => (if (x104 - y136) ≤ 0 then (pf_let (x119 + 1) fun x158 => (.inl (x158, V149))) else ((if 12 < (x104 - y136) then ((.inr (.inr ((0 : Int), V0)))) else (pf_call (F_X11_trySpans a1 x119 (x104 - y136) V149) fun _ V162 => pf_let (x119 + 1) fun x170 => (.inl (x170, V162)))))))))))))) ((-12), V106))))) (1, V93)))
theorem F_X11_findOwnSpans_eq (a1 : Int) (V0 : pm_M) : F_X11_findOwnSpans a1 V0 = (if V0 0 12 = 84 then (pf_let (V0 7 (a1 : Int).toNat) fun y4 => pf_call (F_X11_gatherOdds 84 a1 0 0 y4 (pm_up (pm_up V0 0 14 0) 0 15 0)) fun _ V8 => pf_val ((0 : Int), V0) (fun (q : Int × pm_M) => match q with | (x19, V21) => ((if 24 < x19 then ((.inr (0, V21))) else (pf_val (.inr ((0 : Int), V0)) (fun (q : Int × pm_M) => match q with | (x34, V36) => ((if 12 < x34 then (pf_let (x19 + 1) fun x49 => (.inr (.inl (x49, V36)))) else (pf_let (pm_ab x34) fun y51 => (if (x19 - y51) < 0 then ((if (x19 - y51) ≤ 0 then (pf_let (x34 + 1) fun x56 => (.inl (x56, V36))) else ((.inr (.inr ((0 : Int), V0)))))) else ((if 12 < (x19 - y51) then ((if (x19 - y51) ≤ 0 then ((.inr (.inr ((0 : Int), V0)))) else ((if 12 < (x19 - y51) then (pf_let (x34 + 1) fun x61 => (.inl (x61, V36))) else ((.inr (.inr ((0 : Int), V0)))))))) else (pf_call (F_X11_trySpans a1 x34 (-(x19 - y51)) V36) fun _ V64 => (if (x19 - y51) ≤ 0 then (pf_let (x34 + 1) fun x73 => (.inl (x73, V64))) else ((if 12 < (x19 - y51) then ((.inr (.inr ((0 : Int), V0)))) else (pf_call (F_X11_trySpans a1 x34 (x19 - y51) V64) fun _ V77 => pf_let (x34 + 1) fun x85 => (.inl (x85, V77)))))))))))))) ((-12), V21))))) (1, V8)) else (pf_let (V0 7 (a1 : Int).toNat) fun y89 => pf_call (F_X11_gatherOdds 87 a1 0 0 y89 (pm_up (pm_up V0 0 14 0) 0 15 0)) fun _ V93 => pf_val ((0 : Int), V0) (fun (q : Int × pm_M) => match q with | (x104, V106) => ((if 24 < x104 then ((.inr (0, V106))) else (pf_val (.inr ((0 : Int), V0)) (fun (q : Int × pm_M) => match q with | (x119, V121) => ((if 12 < x119 then (pf_let (x104 + 1) fun x134 => (.inr (.inl (x134, V121)))) else (pf_let (pm_ab x119) fun y136 => (if (x104 - y136) < 0 then ((if (x104 - y136) ≤ 0 then (pf_let (x119 + 1) fun x141 => (.inl (x141, V121))) else ((.inr (.inr ((0 : Int), V0)))))) else ((if 12 < (x104 - y136) then ((if (x104 - y136) ≤ 0 then ((.inr (.inr ((0 : Int), V0)))) else ((if 12 < (x104 - y136) then (pf_let (x119 + 1) fun x146 => (.inl (x146, V121))) else ((.inr (.inr ((0 : Int), V0)))))))) else (pf_call (F_X11_trySpans a1 x119 (-(x104 - y136)) V121) fun _ V149 => (if (x104 - y136) ≤ 0 then (pf_let (x119 + 1) fun x158 => (.inl (x158, V149))) else ((if 12 < (x104 - y136) then ((.inr (.inr ((0 : Int), V0)))) else (pf_call (F_X11_trySpans a1 x119 (x104 - y136) V149) fun _ V162 => pf_let (x119 + 1) fun x170 => (.inl (x170, V162)))))))))))))) ((-12), V106))))) (1, V93))) := rfl
noncomputable def F_X11_findOwnOdds (a1 : Int) (V0 : pm_M) : Int × pm_M := pf_let (V0 5 (a1 : Int).toNat) fun y3 => pf_let (V0 6 (a1 : Int).toNat) fun y7 => (if V0 0 12 = 84 then (pf_call (F_X11_gatherOdds 84 a1 y3 y7 0 V0) fun _ V12 => pf_val ((0 : Int), V0) (fun (q : Int × Int × pm_M) => match q with | (x22, x24, V26) => ((if 16 < x24 then ((.inr (x22, V26))) else ((if V26 0 13 = 84 then (pf_call (F_X11_gatherOdds 84 a1 y3 y7 x24 V26) fun _ V42 => pf_call (F_X11_keepsTried  V42) fun y55 V53 => (if y55 = 0 then (pf_let (x24 + 1) fun x65 => (.inl (x22, x65, V53))) else (pf_let (x24 + 1) fun x67 => (.inl (x24, x67, V53))))) else (pf_call (F_X11_gatherOdds 87 a1 y3 y7 x24 V26) fun _ V70 => pf_call (F_X11_keepsTried  V70) fun y83 V81 => (if y83 = 0 then (pf_let (x24 + 1) fun x93 => (.inl (x22, x93, V81))) else (pf_let (x24 + 1) fun x95 => (.inl (x24, x95, V81)))))))))) (0, 1, V12)) else (pf_call (F_X11_gatherOdds 87 a1 y3 y7 0 V0) fun _ V98 => pf_val ((0 : Int), V0) (fun (q : Int × Int × pm_M) => match q with | (x108, x110, V112) => ((if 16 < x110 then ((.inr (x108, V112))) else ((if V112 0 13 = 84 then (pf_call (F_X11_gatherOdds 84 a1 y3 y7 x110 V112) fun _ V128 => pf_call (F_X11_keepsTried  V128) fun y141 V139 => (if y141 = 0 then (pf_let (x110 + 1) fun x151 => (.inl (x108, x151, V139))) else (pf_let (x110 + 1) fun x153 => (.inl (x110, x153, V139))))) else (pf_call (F_X11_gatherOdds 87 a1 y3 y7 x110 V112) fun _ V156 => pf_call (F_X11_keepsTried  V156) fun y169 V167 => (if y169 = 0 then (pf_let (x110 + 1) fun x179 => (.inl (x108, x179, V167))) else (pf_let (x110 + 1) fun x181 => (.inl (x110, x181, V167)))))))))) (0, 1, V98)))
theorem F_X11_findOwnOdds_eq (a1 : Int) (V0 : pm_M) : F_X11_findOwnOdds a1 V0 = pf_let (V0 5 (a1 : Int).toNat) fun y3 => pf_let (V0 6 (a1 : Int).toNat) fun y7 => (if V0 0 12 = 84 then (pf_call (F_X11_gatherOdds 84 a1 y3 y7 0 V0) fun _ V12 => pf_val ((0 : Int), V0) (fun (q : Int × Int × pm_M) => match q with | (x22, x24, V26) => ((if 16 < x24 then ((.inr (x22, V26))) else ((if V26 0 13 = 84 then (pf_call (F_X11_gatherOdds 84 a1 y3 y7 x24 V26) fun _ V42 => pf_call (F_X11_keepsTried  V42) fun y55 V53 => (if y55 = 0 then (pf_let (x24 + 1) fun x65 => (.inl (x22, x65, V53))) else (pf_let (x24 + 1) fun x67 => (.inl (x24, x67, V53))))) else (pf_call (F_X11_gatherOdds 87 a1 y3 y7 x24 V26) fun _ V70 => pf_call (F_X11_keepsTried  V70) fun y83 V81 => (if y83 = 0 then (pf_let (x24 + 1) fun x93 => (.inl (x22, x93, V81))) else (pf_let (x24 + 1) fun x95 => (.inl (x24, x95, V81)))))))))) (0, 1, V12)) else (pf_call (F_X11_gatherOdds 87 a1 y3 y7 0 V0) fun _ V98 => pf_val ((0 : Int), V0) (fun (q : Int × Int × pm_M) => match q with | (x108, x110, V112) => ((if 16 < x110 then ((.inr (x108, V112))) else ((if V112 0 13 = 84 then (pf_call (F_X11_gatherOdds 84 a1 y3 y7 x110 V112) fun _ V128 => pf_call (F_X11_keepsTried  V128) fun y141 V139 => (if y141 = 0 then (pf_let (x110 + 1) fun x151 => (.inl (x108, x151, V139))) else (pf_let (x110 + 1) fun x153 => (.inl (x110, x153, V139))))) else (pf_call (F_X11_gatherOdds 87 a1 y3 y7 x110 V112) fun _ V156 => pf_call (F_X11_keepsTried  V156) fun y169 V167 => (if y169 = 0 then (pf_let (x110 + 1) fun x179 => (.inl (x108, x179, V167))) else (pf_let (x110 + 1) fun x181 => (.inl (x110, x181, V167)))))))))) (0, 1, V98))) := rfl
noncomputable def F_X11_own (a1 a2 : Int) (V0 : pm_M) : Int × pm_M := pf_call (F_X11_isPerson a1 V0) fun y4 _ => (if y4 = 0 then (((-2147483648), V0)) else ((if a2 < 0 then (((-2147483648), V0)) else ((if a2 ≤ 2 then ((if ¬ (a2 = 2) then (pf_call (F_X11_findOwnSpans a1 V0) fun _ V12 => (if ¬ (a2 = 0) then (pf_let (V12 0 15) fun y19 => (y19, V12)) else (pf_let (V12 0 14) fun y22 => (y22, V12)))) else (pf_call (F_X11_findOwnOdds a1 V0) fun y28 V26 => (y28, V26)))) else (((-2147483648), V0)))))))
theorem F_X11_own_eq (a1 a2 : Int) (V0 : pm_M) : F_X11_own a1 a2 V0 = pf_call (F_X11_isPerson a1 V0) fun y4 _ => (if y4 = 0 then (((-2147483648), V0)) else ((if a2 < 0 then (((-2147483648), V0)) else ((if a2 ≤ 2 then ((if ¬ (a2 = 2) then (pf_call (F_X11_findOwnSpans a1 V0) fun _ V12 => (if ¬ (a2 = 0) then (pf_let (V12 0 15) fun y19 => (y19, V12)) else (pf_let (V12 0 14) fun y22 => (y22, V12)))) else (pf_call (F_X11_findOwnOdds a1 V0) fun y28 V26 => (y28, V26)))) else (((-2147483648), V0))))))) := rfl
set_option maxHeartbeats 4000000 in
set_option maxRecDepth 100000 in
theorem fD_X4_roughQuotient_87_87 (a1 : Int) (h0 : 0 ≤ a1 ∧ a1 ≤ 60) : pm_K 2 yX4_roughQuotient cX4_roughQuotient 9 (some .double) (fun av V => av = [(3, 87), (3, 87), (0, a1)] ∧ pm_ok 0 90 V) (fun _ V r V' => ∃ y, r = some (2, y) ∧ True ∧ V = V' ∧ F_X4_roughQuotientS 87 a1 V = (y, V)) := by
  refine pm_MT.of (by decide) ⟨Nat.le_refl _, by decide⟩ (fun av V h => by rw [h.1]; exact (by decide : pm_words [(3, 0), (3, 0), (0, 0)] ≤ 9)) ?_
  rintro X av V0 hC - hR ⟨rfl, hV0⟩
  change pm_J X 0 [(0, (3, 87)), (1, (3, 87)), (2, (0, a1))] [] 118 V0
  have hT := F_X4_roughQuotientS_eq 87 a1 V0
  refine pm_dconst1V hC dX4_roughQuotient_0 ?_
  refine pm_dstore_n (lv' := [(3, (2, 4607182418800017408)), (0, (3, 87)), (1, (3, 87)), (2, (0, a1))]) hC dX4_roughQuotient_1 (by decide) rfl ?_
  refine pm_iconst (v := 0) hC dX4_roughQuotient_2 ?_
  refine pm_istore (lv' := [(5, (0, 0)), (3, (2, 4607182418800017408)), (0, (3, 87)), (1, (3, 87)), (2, (0, a1))]) hC dX4_roughQuotient_3 (by decide) rfl ?_
  refine pm_iconst (v := 0) hC dX4_roughQuotient_5 ?_
  refine pm_istore (lv' := [(6, (0, 0)), (5, (0, 0)), (3, (2, 4607182418800017408)), (0, (3, 87)), (1, (3, 87)), (2, (0, a1))]) hC dX4_roughQuotient_6 (by decide) rfl ?_
  refine pm_iconst (v := 0) hC dX4_roughQuotient_8 ?_
  refine pm_istore (lv' := [(7, (0, 0)), (6, (0, 0)), (5, (0, 0)), (3, (2, 4607182418800017408)), (0, (3, 87)), (1, (3, 87)), (2, (0, a1))]) hC dX4_roughQuotient_9 (by decide) rfl ?_
  obtain ⟨B12, hB13, hT⟩ := pf_loop hT
  have L15 : ∀ (N17 : Nat) (x1 : Int) (x3 : Int) (x5 : Int) (x7 : Int), fp_gd x1 → (0 ≤ x3 ∧ x3 ≤ 120) → (0 ≤ x5 ∧ x5 ≤ 120) → (0 ≤ x7 ∧ x7 ≤ 240) → (x3 + x5 = x7) → (x3 ≤ 2 * a1) → (x5 ≤ 2 * a1) → F_X4_roughQuotientS 87 a1 V0 = pf_val ((0 : Int), V0) B12 (x1, x3, x5, x7) → (Int.toNat (240 - x7)) = N17 → pm_J X 11 [(0, (3, 87)), (1, (3, 87)), (2, (0, a1)), (3, (2, x1)), (5, (0, x3)), (6, (0, x5)), (7, (0, x7))] [] 118 V0 := by
    intro N17
    induction N17 using Nat.strongRecOn with
    | _ N17 ih18 =>
    intro x1 x3 x5 x7 gd2 b4 b6 b8 b9 b10 b11 hT hm16
    have hb14 := congrFun hB13 (x1, x3, x5, x7)
    refine pm_iload hC 6 dX4_roughQuotient_11 rfl ?_
    refine pm_iconst (v := 4) hC dX4_roughQuotient_13 ?_
    refine pm_iload_n hC 2 dX4_roughQuotient_14 rfl ?_
    refine pm_imul hC dX4_roughQuotient_15 ?_
    refine pm_icmp_ge (tgt := 90) hC ⟨by omega, by omega⟩ ⟨by omega, by omega⟩ dX4_roughQuotient_16 (by decide) (fun c19 => ?_) (fun c19 => ?_)
    · skip
      replace hb14 := hb14.trans (if_pos c19)
      refine pm_dload_n hC 3 dX4_roughQuotient_90 rfl ?_
      have hT := hT.trans (pf_val_inr hb14)
      exact pm_dret hC hR ⟨x1, rfl, trivial, rfl, hT⟩ dX4_roughQuotient_91
    · skip
      replace hb14 := hb14.trans (if_neg (Int.not_le.mpr c19))
      refine pm_iload hC 5 dX4_roughQuotient_19 rfl ?_
      refine pm_iconst (v := 2) hC dX4_roughQuotient_21 ?_
      refine pm_iload_n hC 2 dX4_roughQuotient_22 rfl ?_
      refine pm_imul hC dX4_roughQuotient_23 ?_
      refine pm_icmp_ge (tgt := 41) hC ⟨by omega, by omega⟩ ⟨by omega, by omega⟩ dX4_roughQuotient_24 (by decide) (fun c20 => ?_) (fun c20 => ?_)
      · skip
        replace hb14 := hb14.trans (if_pos c20)
        refine pm_iconst (v := 1) hC dX4_roughQuotient_41 ?_
        refine pm_goto (tgt := 46) hC dX4_roughQuotient_42 (by decide) ?_
        refine pm_istore (lv' := [(8, (0, 1)), (0, (3, 87)), (1, (3, 87)), (2, (0, a1)), (3, (2, x1)), (5, (0, x3)), (6, (0, x5)), (7, (0, x7))]) hC dX4_roughQuotient_46 (by decide) rfl ?_
        refine pm_iload hC 0 dX4_roughQuotient_48 rfl ?_
        refine pm_if_eq (tgt := 70) hC ⟨by decide, by decide⟩ dX4_roughQuotient_50 (by decide) (fun c21 => ?_) (fun c21 => ?_)
        · skip
          exfalso; omega
        · skip
          refine pm_dload_n hC 4 dX4_roughQuotient_53 rfl ?_
          refine pm_aload_n hC 1 (by decide) dX4_roughQuotient_54 rfl ?_
          refine pm_aload_n hC 2 (by decide) dX4_roughQuotient_55 rfl ?_
          refine pm_iload hC 5 dX4_roughQuotient_56 rfl ?_
          refine pm_callS (as := [(3, 87), (3, 87), (0, x3)]) (st := [(2, x1)]) hC (fD_X4_factorOf_87_87 x3 ⟨by omega, by omega⟩) lm_X4_47 ls_X4_factorOf (by decide) (by decide) rfl rfl (Nat.le_of_ble_eq_true rfl) ⟨Nat.le_refl _, Or.inl rfl⟩ dX4_roughQuotient_58 ⟨rfl, hV0⟩ (fun r22 V23 hp24 => ?_)
          obtain ⟨y25, rfl, b26, rfl, hE27⟩ := hp24
          replace hb14 := hb14.trans (pf_call_eq hE27)
          change pm_J X 61 [(8, (0, 1)), (0, (3, 87)), (1, (3, 87)), (2, (0, a1)), (3, (2, x1)), (5, (0, x3)), (6, (0, x5)), (7, (0, x7))] [(1, y25), (2, x1)] 118 V0
          refine pm_l2dV hC dX4_roughQuotient_61 ?_
          obtain ⟨y28, e29⟩ : ∃ z, fp_m x1 (fp_l y25) = z := ⟨_, rfl⟩
          have gd30 : fp_gd y28 := by rw [← e29]; exact fp_m_gd gd2 (fp_l_gp (x := y25) ⟨by omega, by omega⟩)
          replace hb14 := hb14.trans (pf_let_eq e29)
          refine pm_dmulV hC gd2 (fp_l_gp (x := y25) ⟨by omega, by omega⟩) e29 dX4_roughQuotient_62 ?_
          refine pm_dstore_n (lv' := [(3, (2, y28)), (8, (0, 1)), (0, (3, 87)), (1, (3, 87)), (2, (0, a1)), (5, (0, x3)), (6, (0, x5)), (7, (0, x7))]) hC dX4_roughQuotient_63 (by decide) rfl ?_
          obtain ⟨x31, ei32⟩ : ∃ y : Int, x3 + 1 = y := ⟨_, rfl⟩
          replace hb14 := hb14.trans (pf_let_eq ei32)
          refine pm_iinc (y := x31) (lv' := [(5, (0, x31)), (3, (2, y28)), (8, (0, 1)), (0, (3, 87)), (1, (3, 87)), (2, (0, a1)), (6, (0, x5)), (7, (0, x7))]) hC 5 dX4_roughQuotient_64 (by decide) rfl ei32 rfl ?_
          refine pm_goto (tgt := 84) hC dX4_roughQuotient_67 (by decide) ?_
          obtain ⟨x33, ei34⟩ : ∃ y : Int, x7 + 1 = y := ⟨_, rfl⟩
          replace hb14 := hb14.trans (pf_let_eq ei34)
          refine pm_iinc (y := x33) (lv' := [(7, (0, x33)), (5, (0, x31)), (3, (2, y28)), (8, (0, 1)), (0, (3, 87)), (1, (3, 87)), (2, (0, a1)), (6, (0, x5))]) hC 7 dX4_roughQuotient_84 (by decide) rfl ei34 rfl ?_
          refine pm_goto (tgt := 11) hC dX4_roughQuotient_87 (by decide) ?_
          refine pm_lvsub [4, 5, 6, 2, 1, 7, 0] (lv' := [(0, (3, 87)), (1, (3, 87)), (2, (0, a1)), (3, (2, y28)), (5, (0, x31)), (6, (0, x5)), (7, (0, x33))]) rfl ?_
          exact ih18 _ (by omega) y28 x31 x5 x33 gd30 ⟨by omega, by omega⟩ ⟨by omega, by omega⟩ ⟨by omega, by omega⟩ (by omega) (by omega) (by omega) (hT.trans (pf_val_inl hb14)) rfl
      · skip
        replace hb14 := hb14.trans (if_neg (Int.not_le.mpr c20))
        refine pm_iload hC 4 dX4_roughQuotient_27 rfl ?_
        refine pm_iconst (v := 2) hC dX4_roughQuotient_29 ?_
        refine pm_iload_n hC 2 dX4_roughQuotient_30 rfl ?_
        refine pm_imul hC dX4_roughQuotient_31 ?_
        refine pm_icmp_ge (tgt := 45) hC ⟨by omega, by omega⟩ ⟨by omega, by omega⟩ dX4_roughQuotient_32 (by decide) (fun c35 => ?_) (fun c35 => ?_)
        · skip
          replace hb14 := hb14.trans (if_pos c35)
          refine pm_iconst (v := 0) hC dX4_roughQuotient_45 ?_
          refine pm_istore (lv' := [(8, (0, 0)), (0, (3, 87)), (1, (3, 87)), (2, (0, a1)), (3, (2, x1)), (5, (0, x3)), (6, (0, x5)), (7, (0, x7))]) hC dX4_roughQuotient_46 (by decide) rfl ?_
          refine pm_iload hC 0 dX4_roughQuotient_48 rfl ?_
          refine pm_if_eq (tgt := 70) hC ⟨by decide, by decide⟩ dX4_roughQuotient_50 (by decide) (fun c36 => ?_) (fun c36 => ?_)
          · skip
            refine pm_dload_n hC 4 dX4_roughQuotient_70 rfl ?_
            refine pm_aload_n hC 2 (by decide) dX4_roughQuotient_71 rfl ?_
            refine pm_aload_n hC 1 (by decide) dX4_roughQuotient_72 rfl ?_
            refine pm_iload hC 6 dX4_roughQuotient_73 rfl ?_
            refine pm_callS (as := [(3, 87), (3, 87), (0, x5)]) (st := [(2, x1)]) hC (fD_X4_factorOf_87_87 x5 ⟨by omega, by omega⟩) lm_X4_47 ls_X4_factorOf (by decide) (by decide) rfl rfl (Nat.le_of_ble_eq_true rfl) ⟨Nat.le_refl _, Or.inl rfl⟩ dX4_roughQuotient_75 ⟨rfl, hV0⟩ (fun r37 V38 hp39 => ?_)
            obtain ⟨y40, rfl, b41, rfl, hE42⟩ := hp39
            replace hb14 := hb14.trans (pf_call_eq hE42)
            change pm_J X 78 [(8, (0, 0)), (0, (3, 87)), (1, (3, 87)), (2, (0, a1)), (3, (2, x1)), (5, (0, x3)), (6, (0, x5)), (7, (0, x7))] [(1, y40), (2, x1)] 118 V0
            refine pm_l2dV hC dX4_roughQuotient_78 ?_
            obtain ⟨y43, e44⟩ : ∃ z, fp_d x1 (fp_l y40) = z := ⟨_, rfl⟩
            have gd45 : fp_gd y43 := by rw [← e44]; exact fp_d_gd gd2 (fp_l_gp (x := y40) ⟨by omega, by omega⟩)
            replace hb14 := hb14.trans (pf_let_eq e44)
            refine pm_ddivV hC gd2 (fp_l_gp (x := y40) ⟨by omega, by omega⟩) e44 dX4_roughQuotient_79 ?_
            refine pm_dstore_n (lv' := [(3, (2, y43)), (8, (0, 0)), (0, (3, 87)), (1, (3, 87)), (2, (0, a1)), (5, (0, x3)), (6, (0, x5)), (7, (0, x7))]) hC dX4_roughQuotient_80 (by decide) rfl ?_
            obtain ⟨x46, ei47⟩ : ∃ y : Int, x5 + 1 = y := ⟨_, rfl⟩
            replace hb14 := hb14.trans (pf_let_eq ei47)
            refine pm_iinc (y := x46) (lv' := [(6, (0, x46)), (3, (2, y43)), (8, (0, 0)), (0, (3, 87)), (1, (3, 87)), (2, (0, a1)), (5, (0, x3)), (7, (0, x7))]) hC 6 dX4_roughQuotient_81 (by decide) rfl ei47 rfl ?_
            obtain ⟨x48, ei49⟩ : ∃ y : Int, x7 + 1 = y := ⟨_, rfl⟩
            replace hb14 := hb14.trans (pf_let_eq ei49)
            refine pm_iinc (y := x48) (lv' := [(7, (0, x48)), (6, (0, x46)), (3, (2, y43)), (8, (0, 0)), (0, (3, 87)), (1, (3, 87)), (2, (0, a1)), (5, (0, x3))]) hC 7 dX4_roughQuotient_84 (by decide) rfl ei49 rfl ?_
            refine pm_goto (tgt := 11) hC dX4_roughQuotient_87 (by decide) ?_
            refine pm_lvsub [4, 5, 6, 2, 7, 1, 0] (lv' := [(0, (3, 87)), (1, (3, 87)), (2, (0, a1)), (3, (2, y43)), (5, (0, x3)), (6, (0, x46)), (7, (0, x48))]) rfl ?_
            exact ih18 _ (by omega) y43 x3 x46 x48 gd45 ⟨by omega, by omega⟩ ⟨by omega, by omega⟩ ⟨by omega, by omega⟩ (by omega) (by omega) (by omega) (hT.trans (pf_val_inl hb14)) rfl
          · skip
            exfalso; omega
        · skip
          replace hb14 := hb14.trans (if_neg (Int.not_le.mpr c35))
          refine pm_dload_n hC 3 dX4_roughQuotient_35 rfl ?_
          refine pm_dconst1V hC dX4_roughQuotient_36 ?_
          refine pm_dcmpV hC dX4_roughQuotient_37 (fun y50 e51 b52 => ?_)
          replace hb14 := hb14.trans (pf_let_eq e51)
          have b52 := And.intro b52.1 b52.2
          refine pm_if_gt (tgt := 45) hC ⟨by omega, by omega⟩ dX4_roughQuotient_38 (by decide) (fun c53 => ?_) (fun c53 => ?_)
          · skip
            replace hb14 := hb14.trans (if_pos c53)
            refine pm_iconst (v := 0) hC dX4_roughQuotient_45 ?_
            refine pm_istore (lv' := [(8, (0, 0)), (0, (3, 87)), (1, (3, 87)), (2, (0, a1)), (3, (2, x1)), (5, (0, x3)), (6, (0, x5)), (7, (0, x7))]) hC dX4_roughQuotient_46 (by decide) rfl ?_
            refine pm_iload hC 0 dX4_roughQuotient_48 rfl ?_
            refine pm_if_eq (tgt := 70) hC ⟨by decide, by decide⟩ dX4_roughQuotient_50 (by decide) (fun c54 => ?_) (fun c54 => ?_)
            · skip
              refine pm_dload_n hC 4 dX4_roughQuotient_70 rfl ?_
              refine pm_aload_n hC 2 (by decide) dX4_roughQuotient_71 rfl ?_
              refine pm_aload_n hC 1 (by decide) dX4_roughQuotient_72 rfl ?_
              refine pm_iload hC 6 dX4_roughQuotient_73 rfl ?_
              refine pm_callS (as := [(3, 87), (3, 87), (0, x5)]) (st := [(2, x1)]) hC (fD_X4_factorOf_87_87 x5 ⟨by omega, by omega⟩) lm_X4_47 ls_X4_factorOf (by decide) (by decide) rfl rfl (Nat.le_of_ble_eq_true rfl) ⟨Nat.le_refl _, Or.inl rfl⟩ dX4_roughQuotient_75 ⟨rfl, hV0⟩ (fun r55 V56 hp57 => ?_)
              obtain ⟨y58, rfl, b59, rfl, hE60⟩ := hp57
              replace hb14 := hb14.trans (pf_call_eq hE60)
              change pm_J X 78 [(8, (0, 0)), (0, (3, 87)), (1, (3, 87)), (2, (0, a1)), (3, (2, x1)), (5, (0, x3)), (6, (0, x5)), (7, (0, x7))] [(1, y58), (2, x1)] 118 V0
              refine pm_l2dV hC dX4_roughQuotient_78 ?_
              obtain ⟨y61, e62⟩ : ∃ z, fp_d x1 (fp_l y58) = z := ⟨_, rfl⟩
              have gd63 : fp_gd y61 := by rw [← e62]; exact fp_d_gd gd2 (fp_l_gp (x := y58) ⟨by omega, by omega⟩)
              replace hb14 := hb14.trans (pf_let_eq e62)
              refine pm_ddivV hC gd2 (fp_l_gp (x := y58) ⟨by omega, by omega⟩) e62 dX4_roughQuotient_79 ?_
              refine pm_dstore_n (lv' := [(3, (2, y61)), (8, (0, 0)), (0, (3, 87)), (1, (3, 87)), (2, (0, a1)), (5, (0, x3)), (6, (0, x5)), (7, (0, x7))]) hC dX4_roughQuotient_80 (by decide) rfl ?_
              obtain ⟨x64, ei65⟩ : ∃ y : Int, x5 + 1 = y := ⟨_, rfl⟩
              replace hb14 := hb14.trans (pf_let_eq ei65)
              refine pm_iinc (y := x64) (lv' := [(6, (0, x64)), (3, (2, y61)), (8, (0, 0)), (0, (3, 87)), (1, (3, 87)), (2, (0, a1)), (5, (0, x3)), (7, (0, x7))]) hC 6 dX4_roughQuotient_81 (by decide) rfl ei65 rfl ?_
              obtain ⟨x66, ei67⟩ : ∃ y : Int, x7 + 1 = y := ⟨_, rfl⟩
              replace hb14 := hb14.trans (pf_let_eq ei67)
              refine pm_iinc (y := x66) (lv' := [(7, (0, x66)), (6, (0, x64)), (3, (2, y61)), (8, (0, 0)), (0, (3, 87)), (1, (3, 87)), (2, (0, a1)), (5, (0, x3))]) hC 7 dX4_roughQuotient_84 (by decide) rfl ei67 rfl ?_
              refine pm_goto (tgt := 11) hC dX4_roughQuotient_87 (by decide) ?_
              refine pm_lvsub [4, 5, 6, 2, 7, 1, 0] (lv' := [(0, (3, 87)), (1, (3, 87)), (2, (0, a1)), (3, (2, y61)), (5, (0, x3)), (6, (0, x64)), (7, (0, x66))]) rfl ?_
              exact ih18 _ (by omega) y61 x3 x64 x66 gd63 ⟨by omega, by omega⟩ ⟨by omega, by omega⟩ ⟨by omega, by omega⟩ (by omega) (by omega) (by omega) (hT.trans (pf_val_inl hb14)) rfl
            · skip
              exfalso; omega
          · skip
            replace hb14 := hb14.trans (if_neg (Int.not_lt.mpr c53))
            refine pm_iconst (v := 1) hC dX4_roughQuotient_41 ?_
            refine pm_goto (tgt := 46) hC dX4_roughQuotient_42 (by decide) ?_
            refine pm_istore (lv' := [(8, (0, 1)), (0, (3, 87)), (1, (3, 87)), (2, (0, a1)), (3, (2, x1)), (5, (0, x3)), (6, (0, x5)), (7, (0, x7))]) hC dX4_roughQuotient_46 (by decide) rfl ?_
            refine pm_iload hC 0 dX4_roughQuotient_48 rfl ?_
            refine pm_if_eq (tgt := 70) hC ⟨by decide, by decide⟩ dX4_roughQuotient_50 (by decide) (fun c68 => ?_) (fun c68 => ?_)
            · skip
              exfalso; omega
            · skip
              refine pm_dload_n hC 4 dX4_roughQuotient_53 rfl ?_
              refine pm_aload_n hC 1 (by decide) dX4_roughQuotient_54 rfl ?_
              refine pm_aload_n hC 2 (by decide) dX4_roughQuotient_55 rfl ?_
              refine pm_iload hC 5 dX4_roughQuotient_56 rfl ?_
              refine pm_callS (as := [(3, 87), (3, 87), (0, x3)]) (st := [(2, x1)]) hC (fD_X4_factorOf_87_87 x3 ⟨by omega, by omega⟩) lm_X4_47 ls_X4_factorOf (by decide) (by decide) rfl rfl (Nat.le_of_ble_eq_true rfl) ⟨Nat.le_refl _, Or.inl rfl⟩ dX4_roughQuotient_58 ⟨rfl, hV0⟩ (fun r69 V70 hp71 => ?_)
              obtain ⟨y72, rfl, b73, rfl, hE74⟩ := hp71
              replace hb14 := hb14.trans (pf_call_eq hE74)
              change pm_J X 61 [(8, (0, 1)), (0, (3, 87)), (1, (3, 87)), (2, (0, a1)), (3, (2, x1)), (5, (0, x3)), (6, (0, x5)), (7, (0, x7))] [(1, y72), (2, x1)] 118 V0
              refine pm_l2dV hC dX4_roughQuotient_61 ?_
              obtain ⟨y75, e76⟩ : ∃ z, fp_m x1 (fp_l y72) = z := ⟨_, rfl⟩
              have gd77 : fp_gd y75 := by rw [← e76]; exact fp_m_gd gd2 (fp_l_gp (x := y72) ⟨by omega, by omega⟩)
              replace hb14 := hb14.trans (pf_let_eq e76)
              refine pm_dmulV hC gd2 (fp_l_gp (x := y72) ⟨by omega, by omega⟩) e76 dX4_roughQuotient_62 ?_
              refine pm_dstore_n (lv' := [(3, (2, y75)), (8, (0, 1)), (0, (3, 87)), (1, (3, 87)), (2, (0, a1)), (5, (0, x3)), (6, (0, x5)), (7, (0, x7))]) hC dX4_roughQuotient_63 (by decide) rfl ?_
              obtain ⟨x78, ei79⟩ : ∃ y : Int, x3 + 1 = y := ⟨_, rfl⟩
              replace hb14 := hb14.trans (pf_let_eq ei79)
              refine pm_iinc (y := x78) (lv' := [(5, (0, x78)), (3, (2, y75)), (8, (0, 1)), (0, (3, 87)), (1, (3, 87)), (2, (0, a1)), (6, (0, x5)), (7, (0, x7))]) hC 5 dX4_roughQuotient_64 (by decide) rfl ei79 rfl ?_
              refine pm_goto (tgt := 84) hC dX4_roughQuotient_67 (by decide) ?_
              obtain ⟨x80, ei81⟩ : ∃ y : Int, x7 + 1 = y := ⟨_, rfl⟩
              replace hb14 := hb14.trans (pf_let_eq ei81)
              refine pm_iinc (y := x80) (lv' := [(7, (0, x80)), (5, (0, x78)), (3, (2, y75)), (8, (0, 1)), (0, (3, 87)), (1, (3, 87)), (2, (0, a1)), (6, (0, x5))]) hC 7 dX4_roughQuotient_84 (by decide) rfl ei81 rfl ?_
              refine pm_goto (tgt := 11) hC dX4_roughQuotient_87 (by decide) ?_
              refine pm_lvsub [4, 5, 6, 2, 1, 7, 0] (lv' := [(0, (3, 87)), (1, (3, 87)), (2, (0, a1)), (3, (2, y75)), (5, (0, x78)), (6, (0, x5)), (7, (0, x80))]) rfl ?_
              exact ih18 _ (by omega) y75 x78 x5 x80 gd77 ⟨by omega, by omega⟩ ⟨by omega, by omega⟩ ⟨by omega, by omega⟩ (by omega) (by omega) (by omega) (hT.trans (pf_val_inl hb14)) rfl
  refine pm_lvsub [4, 5, 6, 3, 2, 1, 0] (lv' := [(0, (3, 87)), (1, (3, 87)), (2, (0, a1)), (3, (2, 4607182418800017408)), (5, (0, 0)), (6, (0, 0)), (7, (0, 0))]) rfl ?_
  exact L15 _ 4607182418800017408 0 0 0 fp_gd1 ⟨by decide, by decide⟩ ⟨by decide, by decide⟩ ⟨by decide, by decide⟩ (by omega) (by omega) (by omega) hT rfl
set_option maxHeartbeats 4000000 in
set_option maxRecDepth 100000 in
theorem fD_X4_compareExactly_78_87_87 (a1 : Int) (h0 : 0 ≤ a1 ∧ a1 ≤ 60) : pm_K 2 yX4_compareExactly cX4_compareExactly 5 (some .int) (fun av V => av = [(3, 78), (3, 87), (3, 87), (0, a1)] ∧ pm_ok 0 90 V) (fun _ V r V' => ∃ y, r = some (0, y) ∧ ((-1) ≤ y ∧ y ≤ 1) ∧ pm_ok 0 90 V' ∧ pm_ff [80, 82] [(79, 1), (81, 1)] V V' ∧ F_X4_compareExactlyS 87 a1 V = (y, V')) := by
  refine pm_MT.of (by decide) ⟨Nat.le_refl _, by decide⟩ (fun av V h => by rw [h.1]; exact (by decide : pm_words [(3, 0), (3, 0), (3, 0), (0, 0)] ≤ 5)) ?_
  rintro X av V0 hC - hR ⟨rfl, hV0⟩
  change pm_J X 0 [(0, (3, 78)), (1, (3, 87)), (2, (3, 87)), (3, (0, a1))] [] 118 V0
  have hT := F_X4_compareExactlyS_eq 87 a1 V0
  refine pm_aload_n hC 0 (by decide) dX4_compareExactly_0 rfl ?_
  have e1 : V0 78 0 = 79 := hV0.one 78 0 (by decide) (by decide) rfl
  refine pm_getf (v := 79) hC 78 fl_X4_10 rfl rfl (by decide) rfl e1 dX4_compareExactly_1 ?_
  refine pm_callV (ci := 1) (as := []) (st := []) hC 79 fD_X1_begin_79 lm_X4_62 li_X1_begin (by decide) (by decide) rfl rfl rfl (by decide) rfl rfl (Nat.le_of_ble_eq_true rfl) ⟨Nat.le_refl _, Or.inl rfl⟩ dX4_compareExactly_4 ⟨rfl, hV0⟩ (fun r2 V3 hp4 => ?_)
  obtain ⟨rfl, hV5, hF6, hE7⟩ := hp4
  replace hT := hT.trans (pf_call_eq hE7)
  change pm_J X 7 [(0, (3, 78)), (1, (3, 87)), (2, (3, 87)), (3, (0, a1))] [] 118 V3
  have hF8 := pm_ff.tr (pm_ff.rf (cs := [80, 82]) (fs := [(79, 1), (81, 1)]) (V := V0)) hF6 (by decide) (by decide)
  have e9 : V3 78 0 = 79 := by rw [hF6 78 0 (by decide) (by decide)]; exact e1
  refine pm_aload_n hC 0 (by decide) dX4_compareExactly_7 rfl ?_
  have e10 : V3 78 1 = 81 := hV5.one 78 1 (by decide) (by decide) rfl
  refine pm_getf (v := 81) hC 78 fl_X4_16 rfl rfl (by decide) rfl e10 dX4_compareExactly_8 ?_
  refine pm_callV (ci := 1) (as := []) (st := []) hC 81 fD_X1_begin_81 lm_X4_62 li_X1_begin (by decide) (by decide) rfl rfl rfl (by decide) rfl rfl (Nat.le_of_ble_eq_true rfl) ⟨Nat.le_refl _, Or.inl rfl⟩ dX4_compareExactly_11 ⟨rfl, hV5⟩ (fun r11 V12 hp13 => ?_)
  obtain ⟨rfl, hV14, hF15, hE16⟩ := hp13
  replace hT := hT.trans (pf_call_eq hE16)
  change pm_J X 14 [(0, (3, 78)), (1, (3, 87)), (2, (3, 87)), (3, (0, a1))] [] 118 V12
  have hF17 := pm_ff.tr hF8 hF15 (by decide) (by decide)
  have e18 : V12 78 0 = 79 := by rw [hF15 78 0 (by decide) (by decide)]; exact e9
  have e19 : V12 78 1 = 81 := by rw [hF15 78 1 (by decide) (by decide)]; exact e10
  refine pm_iconst (v := 0) hC dX4_compareExactly_14 ?_
  refine pm_istore (lv' := [(4, (0, 0)), (0, (3, 78)), (1, (3, 87)), (2, (3, 87)), (3, (0, a1))]) hC dX4_compareExactly_15 (by decide) rfl ?_
  obtain ⟨B27, hB28, hT⟩ := pf_loop hT
  have L30 : ∀ (N32 : Nat) (x20 : Int) (V22 : pm_M), (0 ≤ x20 ∧ x20 ≤ 60) → pm_ok 0 90 V22 → pm_ff [80, 82] [(79, 1), (81, 1)] V0 V22 → V22 78 0 = 79 → V22 78 1 = 81 → F_X4_compareExactlyS 87 a1 V0 = pf_val ((0 : Int), V0) B27 (x20, V22) → (Int.toNat (60 - x20)) = N32 → pm_J X 17 [(0, (3, 78)), (1, (3, 87)), (2, (3, 87)), (3, (0, a1)), (4, (0, x20))] [] 118 V22 := by
    intro N32
    induction N32 using Nat.strongRecOn with
    | _ N32 ih33 =>
    intro x20 V22 b21 hV23 hF24 e25 e26 hT hm31
    have hb29 := congrFun hB28 (x20, V22)
    refine pm_iload hC 4 dX4_compareExactly_17 rfl ?_
    refine pm_iload_n hC 3 dX4_compareExactly_19 rfl ?_
    refine pm_icmp_ge (tgt := 119) hC ⟨by omega, by omega⟩ ⟨by omega, by omega⟩ dX4_compareExactly_20 (by decide) (fun c34 => ?_) (fun c34 => ?_)
    · skip
      replace hb29 := hb29.trans (if_pos c34)
      refine pm_aload_n hC 0 (by decide) dX4_compareExactly_119 rfl ?_
      refine pm_getf (v := 79) hC 78 fl_X4_10 rfl rfl (by decide) rfl e25 dX4_compareExactly_120 ?_
      refine pm_aload_n hC 0 (by decide) dX4_compareExactly_123 rfl ?_
      refine pm_getf (v := 81) hC 78 fl_X4_16 rfl rfl (by decide) rfl e26 dX4_compareExactly_124 ?_
      refine pm_callV (ci := 1) (as := [(3, 81)]) (st := []) hC 79 fD_X1_compareWith_79_81 lm_X4_69 li_X1_compareWith (by decide) (by decide) rfl rfl rfl (by decide) rfl rfl (Nat.le_of_ble_eq_true rfl) ⟨Nat.le_refl _, Or.inl rfl⟩ dX4_compareExactly_127 ⟨rfl, hV23⟩ (fun r35 V36 hp37 => ?_)
      obtain ⟨y38, rfl, b39, rfl, hE40⟩ := hp37
      replace hb29 := hb29.trans (pf_call_eq hE40)
      change pm_J X 130 [(0, (3, 78)), (1, (3, 87)), (2, (3, 87)), (3, (0, a1)), (4, (0, x20))] [(0, y38)] 118 V22
      have hT := hT.trans (pf_val_inr hb29)
      exact pm_iret hC hR pm_nar0 ⟨y38, rfl, ⟨by omega, by omega⟩, hV23, hF24, hT⟩ dX4_compareExactly_130
    · skip
      replace hb29 := hb29.trans (if_neg (Int.not_le.mpr c34))
      refine pm_aload_n hC 1 (by decide) dX4_compareExactly_23 rfl ?_
      have e41 : V22 87 1 = 88 := hV23.one 87 1 (by decide) (by decide) rfl
      refine pm_getf (v := 88) hC 87 fl_X4_51 rfl rfl (by decide) rfl e41 dX4_compareExactly_24 ?_
      refine pm_iload hC 4 dX4_compareExactly_27 rfl ?_
      obtain ⟨y42, e43⟩ : ∃ y, V22 88 (x20 : Int).toNat = y := ⟨_, rfl⟩
      replace hb29 := hb29.trans (pf_let_eq e43)
      have b44 := hV23.get 88 (x20 : Int).toNat (lo := (-9223372036854775808)) (hi := 9223372036854775807) (by decide) (show _ < 60 by omega) rfl
      rw [e43] at b44
      refine pm_laload (len := 60) (v := y42) hC 88 rfl rfl (by decide) ⟨by omega, by omega⟩ (by decide) e43 dX4_compareExactly_29 ?_
      refine pm_aload_n hC 2 (by decide) dX4_compareExactly_30 rfl ?_
      have e45 : V22 87 2 = 89 := hV23.one 87 2 (by decide) (by decide) rfl
      refine pm_getf (v := 89) hC 87 fl_X4_55 rfl rfl (by decide) rfl e45 dX4_compareExactly_31 ?_
      refine pm_iload hC 4 dX4_compareExactly_34 rfl ?_
      obtain ⟨y46, e47⟩ : ∃ y, V22 89 (x20 : Int).toNat = y := ⟨_, rfl⟩
      replace hb29 := hb29.trans (pf_let_eq e47)
      have b48 := hV23.get 89 (x20 : Int).toNat (lo := (-9223372036854775808)) (hi := 9223372036854775807) (by decide) (show _ < 60 by omega) rfl
      rw [e47] at b48
      refine pm_laload (len := 60) (v := y46) hC 89 rfl rfl (by decide) ⟨by omega, by omega⟩ (by decide) e47 dX4_compareExactly_36 ?_
      refine pm_lmul hC dX4_compareExactly_37 ?_
      refine pm_wrL hC (fun y49 hw51 b50 => ?_)
      replace hb29 := hb29.trans (pf_let_eq hw51)
      have b50 := And.intro b50.1 b50.2
      refine pm_aload_n hC 2 (by decide) dX4_compareExactly_38 rfl ?_
      refine pm_getf (v := 88) hC 87 fl_X4_51 rfl rfl (by decide) rfl e41 dX4_compareExactly_39 ?_
      refine pm_iload hC 4 dX4_compareExactly_42 rfl ?_
      refine pm_laload (len := 60) (v := y42) hC 88 rfl rfl (by decide) ⟨by omega, by omega⟩ (by decide) e43 dX4_compareExactly_44 ?_
      refine pm_aload_n hC 1 (by decide) dX4_compareExactly_45 rfl ?_
      refine pm_getf (v := 89) hC 87 fl_X4_55 rfl rfl (by decide) rfl e45 dX4_compareExactly_46 ?_
      refine pm_iload hC 4 dX4_compareExactly_49 rfl ?_
      refine pm_laload (len := 60) (v := y46) hC 89 rfl rfl (by decide) ⟨by omega, by omega⟩ (by decide) e47 dX4_compareExactly_51 ?_
      refine pm_lmul hC dX4_compareExactly_52 ?_
      refine pm_wrL hC (fun y52 hw54 b53 => ?_)
      replace hb29 := hb29.trans (pf_let_eq hw54)
      have b53 := And.intro b53.1 b53.2
      refine pm_lcmp hC ⟨by omega, by omega⟩ ⟨by omega, by omega⟩ dX4_compareExactly_53 (fun y55 b56 => ?_)
      replace hb29 := hb29.trans (pf_let_eq (pm_cmp_u b56))
      refine pm_if_eq (tgt := 113) hC ⟨by omega, by omega⟩ dX4_compareExactly_54 (by decide) (fun c57 => ?_) (fun c57 => ?_)
      · skip
        replace hb29 := hb29.trans (if_pos c57)
        obtain ⟨x58, ei59⟩ : ∃ y : Int, x20 + 1 = y := ⟨_, rfl⟩
        replace hb29 := hb29.trans (pf_let_eq ei59)
        refine pm_iinc (y := x58) (lv' := [(4, (0, x58)), (0, (3, 78)), (1, (3, 87)), (2, (3, 87)), (3, (0, a1))]) hC 4 dX4_compareExactly_113 (by decide) rfl ei59 rfl ?_
        refine pm_goto (tgt := 17) hC dX4_compareExactly_116 (by decide) ?_
        refine pm_lvsub [1, 2, 3, 4, 0] (lv' := [(0, (3, 78)), (1, (3, 87)), (2, (3, 87)), (3, (0, a1)), (4, (0, x58))]) rfl ?_
        exact ih33 _ (by omega) x58 V22 ⟨by omega, by omega⟩ hV23 hF24 e25 e26 (hT.trans (pf_val_inl hb29)) rfl
      · skip
        replace hb29 := hb29.trans (if_neg c57)
        refine pm_aload_n hC 0 (by decide) dX4_compareExactly_57 rfl ?_
        refine pm_getf (v := 79) hC 78 fl_X4_10 rfl rfl (by decide) rfl e25 dX4_compareExactly_58 ?_
        refine pm_aload_n hC 1 (by decide) dX4_compareExactly_61 rfl ?_
        refine pm_getf (v := 88) hC 87 fl_X4_51 rfl rfl (by decide) rfl e41 dX4_compareExactly_62 ?_
        refine pm_iload hC 4 dX4_compareExactly_65 rfl ?_
        refine pm_laload (len := 60) (v := y42) hC 88 rfl rfl (by decide) ⟨by omega, by omega⟩ (by decide) e43 dX4_compareExactly_67 ?_
        refine pm_callV (ci := 1) (as := [(1, y42)]) (st := []) hC 79 (fD_X1_times_79 y42 ⟨by omega, by omega⟩) lm_X4_65 li_X1_times (by decide) (by decide) rfl rfl rfl (by decide) rfl rfl (Nat.le_of_ble_eq_true rfl) ⟨Nat.le_refl _, Or.inl rfl⟩ dX4_compareExactly_68 ⟨rfl, hV23⟩ (fun r60 V61 hp62 => ?_)
        obtain ⟨rfl, hV63, hF64, hE65⟩ := hp62
        replace hb29 := hb29.trans (pf_call_eq hE65)
        change pm_J X 71 [(0, (3, 78)), (1, (3, 87)), (2, (3, 87)), (3, (0, a1)), (4, (0, x20))] [] 118 V61
        have hF66 := pm_ff.tr hF24 hF64 (by decide) (by decide)
        have e67 : V61 78 0 = 79 := by rw [hF64 78 0 (by decide) (by decide)]; exact e25
        have e68 : V61 78 1 = 81 := by rw [hF64 78 1 (by decide) (by decide)]; exact e26
        have e69 : V61 87 1 = 88 := by rw [hF64 87 1 (by decide) (by decide)]; exact e41
        have e70 : V61 87 2 = 89 := by rw [hF64 87 2 (by decide) (by decide)]; exact e45
        refine pm_aload_n hC 0 (by decide) dX4_compareExactly_71 rfl ?_
        refine pm_getf (v := 79) hC 78 fl_X4_10 rfl rfl (by decide) rfl e67 dX4_compareExactly_72 ?_
        refine pm_aload_n hC 2 (by decide) dX4_compareExactly_75 rfl ?_
        refine pm_getf (v := 89) hC 87 fl_X4_55 rfl rfl (by decide) rfl e70 dX4_compareExactly_76 ?_
        refine pm_iload hC 4 dX4_compareExactly_79 rfl ?_
        obtain ⟨y71, e72⟩ : ∃ y, V61 89 (x20 : Int).toNat = y := ⟨_, rfl⟩
        replace hb29 := hb29.trans (pf_let_eq e72)
        have b73 := hV63.get 89 (x20 : Int).toNat (lo := (-9223372036854775808)) (hi := 9223372036854775807) (by decide) (show _ < 60 by omega) rfl
        rw [e72] at b73
        refine pm_laload (len := 60) (v := y71) hC 89 rfl rfl (by decide) ⟨by omega, by omega⟩ (by decide) e72 dX4_compareExactly_81 ?_
        refine pm_callV (ci := 1) (as := [(1, y71)]) (st := []) hC 79 (fD_X1_times_79 y71 ⟨by omega, by omega⟩) lm_X4_65 li_X1_times (by decide) (by decide) rfl rfl rfl (by decide) rfl rfl (Nat.le_of_ble_eq_true rfl) ⟨Nat.le_refl _, Or.inl rfl⟩ dX4_compareExactly_82 ⟨rfl, hV63⟩ (fun r74 V75 hp76 => ?_)
        obtain ⟨rfl, hV77, hF78, hE79⟩ := hp76
        replace hb29 := hb29.trans (pf_call_eq hE79)
        change pm_J X 85 [(0, (3, 78)), (1, (3, 87)), (2, (3, 87)), (3, (0, a1)), (4, (0, x20))] [] 118 V75
        have hF80 := pm_ff.tr hF66 hF78 (by decide) (by decide)
        have e81 : V75 78 0 = 79 := by rw [hF78 78 0 (by decide) (by decide)]; exact e67
        have e82 : V75 78 1 = 81 := by rw [hF78 78 1 (by decide) (by decide)]; exact e68
        have e83 : V75 87 1 = 88 := by rw [hF78 87 1 (by decide) (by decide)]; exact e69
        have e84 : V75 87 2 = 89 := by rw [hF78 87 2 (by decide) (by decide)]; exact e70
        refine pm_aload_n hC 0 (by decide) dX4_compareExactly_85 rfl ?_
        refine pm_getf (v := 81) hC 78 fl_X4_16 rfl rfl (by decide) rfl e82 dX4_compareExactly_86 ?_
        refine pm_aload_n hC 2 (by decide) dX4_compareExactly_89 rfl ?_
        refine pm_getf (v := 88) hC 87 fl_X4_51 rfl rfl (by decide) rfl e83 dX4_compareExactly_90 ?_
        refine pm_iload hC 4 dX4_compareExactly_93 rfl ?_
        obtain ⟨y85, e86⟩ : ∃ y, V75 88 (x20 : Int).toNat = y := ⟨_, rfl⟩
        replace hb29 := hb29.trans (pf_let_eq e86)
        have b87 := hV77.get 88 (x20 : Int).toNat (lo := (-9223372036854775808)) (hi := 9223372036854775807) (by decide) (show _ < 60 by omega) rfl
        rw [e86] at b87
        refine pm_laload (len := 60) (v := y85) hC 88 rfl rfl (by decide) ⟨by omega, by omega⟩ (by decide) e86 dX4_compareExactly_95 ?_
        refine pm_callV (ci := 1) (as := [(1, y85)]) (st := []) hC 81 (fD_X1_times_81 y85 ⟨by omega, by omega⟩) lm_X4_65 li_X1_times (by decide) (by decide) rfl rfl rfl (by decide) rfl rfl (Nat.le_of_ble_eq_true rfl) ⟨Nat.le_refl _, Or.inl rfl⟩ dX4_compareExactly_96 ⟨rfl, hV77⟩ (fun r88 V89 hp90 => ?_)
        obtain ⟨rfl, hV91, hF92, hE93⟩ := hp90
        replace hb29 := hb29.trans (pf_call_eq hE93)
        change pm_J X 99 [(0, (3, 78)), (1, (3, 87)), (2, (3, 87)), (3, (0, a1)), (4, (0, x20))] [] 118 V89
        have hF94 := pm_ff.tr hF80 hF92 (by decide) (by decide)
        have e95 : V89 78 0 = 79 := by rw [hF92 78 0 (by decide) (by decide)]; exact e81
        have e96 : V89 78 1 = 81 := by rw [hF92 78 1 (by decide) (by decide)]; exact e82
        have e97 : V89 87 1 = 88 := by rw [hF92 87 1 (by decide) (by decide)]; exact e83
        have e98 : V89 87 2 = 89 := by rw [hF92 87 2 (by decide) (by decide)]; exact e84
        refine pm_aload_n hC 0 (by decide) dX4_compareExactly_99 rfl ?_
        refine pm_getf (v := 81) hC 78 fl_X4_16 rfl rfl (by decide) rfl e96 dX4_compareExactly_100 ?_
        refine pm_aload_n hC 1 (by decide) dX4_compareExactly_103 rfl ?_
        refine pm_getf (v := 89) hC 87 fl_X4_55 rfl rfl (by decide) rfl e98 dX4_compareExactly_104 ?_
        refine pm_iload hC 4 dX4_compareExactly_107 rfl ?_
        obtain ⟨y99, e100⟩ : ∃ y, V89 89 (x20 : Int).toNat = y := ⟨_, rfl⟩
        replace hb29 := hb29.trans (pf_let_eq e100)
        have b101 := hV91.get 89 (x20 : Int).toNat (lo := (-9223372036854775808)) (hi := 9223372036854775807) (by decide) (show _ < 60 by omega) rfl
        rw [e100] at b101
        refine pm_laload (len := 60) (v := y99) hC 89 rfl rfl (by decide) ⟨by omega, by omega⟩ (by decide) e100 dX4_compareExactly_109 ?_
        refine pm_callV (ci := 1) (as := [(1, y99)]) (st := []) hC 81 (fD_X1_times_81 y99 ⟨by omega, by omega⟩) lm_X4_65 li_X1_times (by decide) (by decide) rfl rfl rfl (by decide) rfl rfl (Nat.le_of_ble_eq_true rfl) ⟨Nat.le_refl _, Or.inl rfl⟩ dX4_compareExactly_110 ⟨rfl, hV91⟩ (fun r102 V103 hp104 => ?_)
        obtain ⟨rfl, hV105, hF106, hE107⟩ := hp104
        replace hb29 := hb29.trans (pf_call_eq hE107)
        change pm_J X 113 [(0, (3, 78)), (1, (3, 87)), (2, (3, 87)), (3, (0, a1)), (4, (0, x20))] [] 118 V103
        have hF108 := pm_ff.tr hF94 hF106 (by decide) (by decide)
        have e109 : V103 78 0 = 79 := by rw [hF106 78 0 (by decide) (by decide)]; exact e95
        have e110 : V103 78 1 = 81 := by rw [hF106 78 1 (by decide) (by decide)]; exact e96
        have e111 : V103 87 1 = 88 := by rw [hF106 87 1 (by decide) (by decide)]; exact e97
        have e112 : V103 87 2 = 89 := by rw [hF106 87 2 (by decide) (by decide)]; exact e98
        obtain ⟨x113, ei114⟩ : ∃ y : Int, x20 + 1 = y := ⟨_, rfl⟩
        replace hb29 := hb29.trans (pf_let_eq ei114)
        refine pm_iinc (y := x113) (lv' := [(4, (0, x113)), (0, (3, 78)), (1, (3, 87)), (2, (3, 87)), (3, (0, a1))]) hC 4 dX4_compareExactly_113 (by decide) rfl ei114 rfl ?_
        refine pm_goto (tgt := 17) hC dX4_compareExactly_116 (by decide) ?_
        refine pm_lvsub [1, 2, 3, 4, 0] (lv' := [(0, (3, 78)), (1, (3, 87)), (2, (3, 87)), (3, (0, a1)), (4, (0, x113))]) rfl ?_
        exact ih33 _ (by omega) x113 V103 ⟨by omega, by omega⟩ hV105 hF108 e109 e110 (hT.trans (pf_val_inl hb29)) rfl
  refine pm_lvsub [1, 2, 3, 4, 0] (lv' := [(0, (3, 78)), (1, (3, 87)), (2, (3, 87)), (3, (0, a1)), (4, (0, 0))]) rfl ?_
  exact L30 _ 0 V12 ⟨by decide, by decide⟩ hV14 hF17 e18 e19 hT rfl
set_option maxHeartbeats 4000000 in
set_option maxRecDepth 100000 in
theorem fD_X4_compareProducts_78_87_87  : pm_K 3 yX4_compareProducts cX4_compareProducts 8 (some .int) (fun av V => av = [(3, 78), (3, 87), (3, 87)] ∧ pm_ok 0 90 V) (fun _ V r V' => ∃ y, r = some (0, y) ∧ ((-1) ≤ y ∧ y ≤ 1) ∧ pm_ok 0 90 V' ∧ pm_ff [80, 82] [(79, 1), (81, 1)] V V' ∧ F_X4_compareProductsS 87 V = (y, V')) := by
  refine pm_MT.of (by decide) ⟨Nat.le_refl _, by decide⟩ (fun av V h => by rw [h.1]; exact (by decide : pm_words [(3, 0), (3, 0), (3, 0)] ≤ 8)) ?_
  rintro X av V0 hC - hR ⟨rfl, hV0⟩
  change pm_J X 0 [(0, (3, 78)), (1, (3, 87)), (2, (3, 87))] [] 118 V0
  have hT := F_X4_compareProductsS_eq 87 V0
  refine pm_aload_n hC 1 (by decide) dX4_compareProducts_0 rfl ?_
  refine pm_callV (ci := 0) (as := []) (st := []) hC 87 fD_X0_isNever_87 lm_X4_19 li_X0_isNever (by decide) (by decide) rfl rfl rfl (by decide) rfl rfl (Nat.le_of_ble_eq_true rfl) ⟨Nat.le_refl _, Or.inl rfl⟩ dX4_compareProducts_1 ⟨rfl, hV0⟩ (fun r1 V2 hp3 => ?_)
  obtain ⟨y4, rfl, b5, rfl, hE6⟩ := hp3
  replace hT := hT.trans (pf_call_eq hE6)
  change pm_J X 4 [(0, (3, 78)), (1, (3, 87)), (2, (3, 87))] [(0, y4)] 118 V0
  refine pm_istore_n (lv' := [(3, (0, y4)), (0, (3, 78)), (1, (3, 87)), (2, (3, 87))]) hC dX4_compareProducts_4 (by decide) rfl ?_
  refine pm_aload_n hC 3 (by decide) dX4_compareProducts_5 rfl ?_
  refine pm_callV (ci := 0) (as := []) (st := []) hC 87 fD_X0_isNever_87 lm_X4_19 li_X0_isNever (by decide) (by decide) rfl rfl rfl (by decide) rfl rfl (Nat.le_of_ble_eq_true rfl) ⟨Nat.le_refl _, Or.inl rfl⟩ dX4_compareProducts_6 ⟨rfl, hV0⟩ (fun r7 V8 hp9 => ?_)
  obtain ⟨y10, rfl, b11, rfl, hE12⟩ := hp9
  replace hT := hT.trans (pf_call_eq hE12)
  change pm_J X 9 [(3, (0, y4)), (0, (3, 78)), (1, (3, 87)), (2, (3, 87))] [(0, y10)] 118 V0
  refine pm_istore (lv' := [(4, (0, y10)), (3, (0, y4)), (0, (3, 78)), (1, (3, 87)), (2, (3, 87))]) hC dX4_compareProducts_9 (by decide) rfl ?_
  refine pm_iload_n hC 1 dX4_compareProducts_11 rfl ?_
  refine pm_if_ne (tgt := 20) hC ⟨by omega, by omega⟩ dX4_compareProducts_12 (by decide) (fun c13 => ?_) (fun c13 => ?_)
  · skip
    replace hT := hT.trans (if_pos c13)
    refine pm_iload hC 0 dX4_compareProducts_20 rfl ?_
    refine pm_if_eq (tgt := 29) hC ⟨by omega, by omega⟩ dX4_compareProducts_22 (by decide) (fun c14 => ?_) (fun c14 => ?_)
    · skip
      replace hT := hT.trans (if_pos c14)
      refine pm_iconst (v := 0) hC dX4_compareProducts_29 ?_
      refine pm_iload_n hC 1 dX4_compareProducts_30 rfl ?_
      refine pm_if_eq (tgt := 38) hC ⟨by omega, by omega⟩ dX4_compareProducts_31 (by decide) (fun c15 => ?_) (fun c15 => ?_)
      · skip
        replace hT := hT.trans (if_pos c15)
        exfalso; omega
      · skip
        replace hT := hT.trans (if_neg c15)
        refine pm_iconst (v := 1) hC dX4_compareProducts_34 ?_
        refine pm_goto (tgt := 39) hC dX4_compareProducts_35 (by decide) ?_
        refine pm_isub hC dX4_compareProducts_39 ?_
        change pm_J X 40 [(4, (0, y10)), (3, (0, y4)), (0, (3, 78)), (1, (3, 87)), (2, (3, 87))] [(0, (-1))] 118 V0
        exact pm_iret hC hR pm_nar0 ⟨(-1), rfl, ⟨by omega, by omega⟩, hV0, (pm_ff.rf (cs := [80, 82]) (fs := [(79, 1), (81, 1)]) (V := V0)), hT⟩ dX4_compareProducts_40
    · skip
      replace hT := hT.trans (if_neg c14)
      refine pm_iconst (v := 1) hC dX4_compareProducts_25 ?_
      refine pm_goto (tgt := 30) hC dX4_compareProducts_26 (by decide) ?_
      refine pm_iload_n hC 1 dX4_compareProducts_30 rfl ?_
      refine pm_if_eq (tgt := 38) hC ⟨by omega, by omega⟩ dX4_compareProducts_31 (by decide) (fun c16 => ?_) (fun c16 => ?_)
      · skip
        replace hT := hT.trans (if_pos c16)
        exfalso; omega
      · skip
        replace hT := hT.trans (if_neg c16)
        refine pm_iconst (v := 1) hC dX4_compareProducts_34 ?_
        refine pm_goto (tgt := 39) hC dX4_compareProducts_35 (by decide) ?_
        refine pm_isub hC dX4_compareProducts_39 ?_
        change pm_J X 40 [(4, (0, y10)), (3, (0, y4)), (0, (3, 78)), (1, (3, 87)), (2, (3, 87))] [(0, 0)] 118 V0
        exact pm_iret hC hR pm_nar0 ⟨0, rfl, ⟨by omega, by omega⟩, hV0, (pm_ff.rf (cs := [80, 82]) (fs := [(79, 1), (81, 1)]) (V := V0)), hT⟩ dX4_compareProducts_40
  · skip
    replace hT := hT.trans (if_neg (fun q => q c13))
    refine pm_iload hC 0 dX4_compareProducts_15 rfl ?_
    refine pm_if_eq (tgt := 41) hC ⟨by omega, by omega⟩ dX4_compareProducts_17 (by decide) (fun c17 => ?_) (fun c17 => ?_)
    · skip
      replace hT := hT.trans (if_pos c17)
      refine pm_aload_n hC 3 (by decide) dX4_compareProducts_41 rfl ?_
      obtain ⟨y18, e19⟩ : ∃ y, V0 87 0 = y := ⟨_, rfl⟩
      have b20 := hV0.get 87 0 (lo := 0) (hi := 60) (by decide) (by decide) rfl
      rw [e19] at b20
      replace hT := hT.trans (pf_let_eq e19)
      refine pm_getf (v := y18) hC 87 fl_X4_25 rfl rfl (by decide) rfl e19 dX4_compareProducts_42 ?_
      refine pm_aload_n hC 4 (by decide) dX4_compareProducts_45 rfl ?_
      refine pm_getf (v := y18) hC 87 fl_X4_25 rfl rfl (by decide) rfl e19 dX4_compareProducts_46 ?_
      refine pm_mmin hC 4159 4160 1018 4161 ⟨by omega, by omega⟩ ⟨by omega, by omega⟩ (by decide) wL_X4_29 wS_mmin wI_math wC_mmin (Nat.le_of_ble_eq_true rfl) dX4_compareProducts_49 (fun y21 b22 => ?_)
      have he23 : pm_mn y18 y18 = y21 := pm_mn_of b22
      replace b22 : 0 ≤ y21 ∧ y21 ≤ 60 ∧ y21 ≤ y18 ∧ y21 ≤ y18 := ⟨by omega, by omega, b22.1, b22.2.1⟩
      replace hT := hT.trans (pf_let_eq he23)
      refine pm_istore (lv' := [(5, (0, y21)), (4, (0, y10)), (3, (0, y4)), (0, (3, 78)), (1, (3, 87)), (2, (3, 87))]) hC dX4_compareProducts_52 (by decide) rfl ?_
      refine pm_aload_n hC 4 (by decide) dX4_compareProducts_54 rfl ?_
      refine pm_aload_n hC 5 (by decide) dX4_compareProducts_55 rfl ?_
      refine pm_iload hC 0 dX4_compareProducts_56 rfl ?_
      refine pm_callS (as := [(3, 87), (3, 87), (0, y21)]) (st := []) hC (fD_X4_roughQuotient_87_87 y21 ⟨by omega, by omega⟩) lm_X4_35 ls_X4_roughQuotient (by decide) (by decide) rfl rfl (Nat.le_of_ble_eq_true rfl) ⟨Nat.le_refl _, Or.inl rfl⟩ dX4_compareProducts_58 ⟨rfl, hV0⟩ (fun r24 V25 hp26 => ?_)
      obtain ⟨y27, rfl, b28, rfl, hE29⟩ := hp26
      replace hT := hT.trans (pf_call_eq hE29)
      change pm_J X 61 [(5, (0, y21)), (4, (0, y10)), (3, (0, y4)), (0, (3, 78)), (1, (3, 87)), (2, (3, 87))] [(2, y27)] 118 V0
      refine pm_dstore (lv' := [(6, (2, y27)), (5, (0, y21)), (4, (0, y10)), (3, (0, y4)), (0, (3, 78)), (1, (3, 87)), (2, (3, 87))]) hC dX4_compareProducts_61 (by decide) rfl ?_
      refine pm_dload hC 0 dX4_compareProducts_63 rfl ?_
      refine pm_ldc2dV (v := 4607182418804521008) (z := 4607182418804521008) hC 4171 dX4_compareProducts_65 (by decide +kernel) rfl ?_
      refine pm_dcmpV hC dX4_compareProducts_68 (fun y30 e31 b32 => ?_)
      replace hT := hT.trans (pf_let_eq e31)
      have b32 := And.intro b32.1 b32.2
      refine pm_if_le (tgt := 74) hC ⟨by omega, by omega⟩ dX4_compareProducts_69 (by decide) (fun c33 => ?_) (fun c33 => ?_)
      · skip
        replace hT := hT.trans (if_pos c33)
        refine pm_dload hC 0 dX4_compareProducts_74 rfl ?_
        refine pm_ldc2dV (v := 4607182418791010209) (z := 4607182418791010209) hC 4172 dX4_compareProducts_76 (by decide +kernel) rfl ?_
        refine pm_dcmpV hC dX4_compareProducts_79 (fun y34 e35 b36 => ?_)
        replace hT := hT.trans (pf_let_eq e35)
        have b36 := And.intro b36.1 b36.2
        refine pm_if_ge (tgt := 85) hC ⟨by omega, by omega⟩ dX4_compareProducts_80 (by decide) (fun c37 => ?_) (fun c37 => ?_)
        · skip
          replace hT := hT.trans (if_pos c37)
          refine pm_aload_n hC 4 (by decide) dX4_compareProducts_85 rfl ?_
          refine pm_aload_n hC 5 (by decide) dX4_compareProducts_86 rfl ?_
          refine pm_aload_n hC 6 (by decide) dX4_compareProducts_87 rfl ?_
          refine pm_iload hC 1 dX4_compareProducts_88 rfl ?_
          refine pm_callV (ci := 4) (as := [(3, 87), (3, 87), (0, y21)]) (st := []) hC 78 (fD_X4_compareExactly_78_87_87 y21 ⟨by omega, by omega⟩) lm_X4_43 li_X4_compareExactly (by decide) (by decide) rfl rfl rfl (by decide) rfl rfl (Nat.le_of_ble_eq_true rfl) ⟨Nat.le_refl _, Or.inl rfl⟩ dX4_compareProducts_90 ⟨rfl, hV0⟩ (fun r38 V39 hp40 => ?_)
          obtain ⟨y41, rfl, b42, hV43, hF44, hE45⟩ := hp40
          replace hT := hT.trans (pf_call_eq hE45)
          change pm_J X 93 [(6, (2, y27)), (5, (0, y21)), (4, (0, y10)), (3, (0, y4)), (0, (3, 78)), (1, (3, 87)), (2, (3, 87))] [(0, y41)] 118 V39
          have hF46 := pm_ff.tr (pm_ff.rf (cs := [80, 82]) (fs := [(79, 1), (81, 1)]) (V := V0)) hF44 (by decide) (by decide)
          have e47 : V39 87 0 = y18 := by rw [hF44 87 0 (by decide) (by decide)]; exact e19
          exact pm_iret hC hR pm_nar0 ⟨y41, rfl, ⟨by omega, by omega⟩, hV43, hF46, hT⟩ dX4_compareProducts_93
        · skip
          replace hT := hT.trans (if_neg (Int.not_le.mpr c37))
          refine pm_iconst (v := (-1)) hC dX4_compareProducts_83 ?_
          exact pm_iret hC hR pm_nar0 ⟨(-1), rfl, ⟨by omega, by omega⟩, hV0, (pm_ff.rf (cs := [80, 82]) (fs := [(79, 1), (81, 1)]) (V := V0)), hT⟩ dX4_compareProducts_84
      · skip
        replace hT := hT.trans (if_neg (Int.not_le.mpr c33))
        refine pm_iconst (v := 1) hC dX4_compareProducts_72 ?_
        exact pm_iret hC hR pm_nar0 ⟨1, rfl, ⟨by omega, by omega⟩, hV0, (pm_ff.rf (cs := [80, 82]) (fs := [(79, 1), (81, 1)]) (V := V0)), hT⟩ dX4_compareProducts_73
    · skip
      replace hT := hT.trans (if_neg c17)
      refine pm_iload hC 0 dX4_compareProducts_20 rfl ?_
      refine pm_if_eq (tgt := 29) hC ⟨by omega, by omega⟩ dX4_compareProducts_22 (by decide) (fun c48 => ?_) (fun c48 => ?_)
      · skip
        replace hT := hT.trans (if_pos c48)
        exfalso; omega
      · skip
        replace hT := hT.trans (if_neg c48)
        refine pm_iconst (v := 1) hC dX4_compareProducts_25 ?_
        refine pm_goto (tgt := 30) hC dX4_compareProducts_26 (by decide) ?_
        refine pm_iload_n hC 1 dX4_compareProducts_30 rfl ?_
        refine pm_if_eq (tgt := 38) hC ⟨by omega, by omega⟩ dX4_compareProducts_31 (by decide) (fun c49 => ?_) (fun c49 => ?_)
        · skip
          replace hT := hT.trans (if_pos c49)
          refine pm_iconst (v := 0) hC dX4_compareProducts_38 ?_
          refine pm_isub hC dX4_compareProducts_39 ?_
          change pm_J X 40 [(4, (0, y10)), (3, (0, y4)), (0, (3, 78)), (1, (3, 87)), (2, (3, 87))] [(0, 1)] 118 V0
          exact pm_iret hC hR pm_nar0 ⟨1, rfl, ⟨by omega, by omega⟩, hV0, (pm_ff.rf (cs := [80, 82]) (fs := [(79, 1), (81, 1)]) (V := V0)), hT⟩ dX4_compareProducts_40
        · skip
          replace hT := hT.trans (if_neg c49)
          exfalso; omega
set_option maxHeartbeats 4000000 in
set_option maxRecDepth 100000 in
theorem fD_X11_keepsTried_0  : pm_K 4 yX11_keepsTried cX11_keepsTried 2 (some .boolean) (fun av V => av = [(3, 0)] ∧ pm_ok 0 90 V) (fun _ V r V' => ∃ y, r = some (0, y) ∧ (0 ≤ y ∧ y ≤ 1) ∧ pm_ok 0 90 V' ∧ pm_ff [80, 82] [(0, 12), (0, 13), (79, 1), (81, 1)] V V' ∧ F_X11_keepsTried  V = (y, V')) := by
  refine pm_MT.of (by decide) ⟨Nat.le_refl _, by decide⟩ (fun av V h => by rw [h.1]; exact (by decide : pm_words [(3, 0)] ≤ 2)) ?_
  rintro X av V0 hC - hR ⟨rfl, hV0⟩
  change pm_J X 0 [(0, (3, 0))] [] 118 V0
  have hT := F_X11_keepsTried_eq  V0
  refine pm_aload_n hC 0 (by decide) dX11_keepsTried_0 rfl ?_
  have e1 : V0 0 6 = 78 := hV0.one 0 6 (by decide) (by decide) rfl
  refine pm_getf (v := 78) hC 0 fl_X11_82 rfl rfl (by decide) rfl e1 dX11_keepsTried_1 ?_
  refine pm_aload_n hC 0 (by decide) dX11_keepsTried_4 rfl ?_
  rcases hV0.get2 0 13 (lo := 84) (hi := 87) (by decide) (by decide) rfl with e2 | e2
  · skip
    replace hT := hT.trans (if_pos e2)
    refine pm_getf (v := 84) hC 0 fl_X11_97 rfl rfl (by decide) rfl e2 dX11_keepsTried_5 ?_
    refine pm_aload_n hC 0 (by decide) dX11_keepsTried_8 rfl ?_
    rcases hV0.get2 0 12 (lo := 84) (hi := 87) (by decide) (by decide) rfl with e3 | e3
    · skip
      replace hT := hT.trans (if_pos e3)
      refine pm_getf (v := 84) hC 0 fl_X11_93 rfl rfl (by decide) rfl e3 dX11_keepsTried_9 ?_
      refine pm_callV (ci := 4) (as := [(3, 84), (3, 84)]) (st := []) hC 78 fD_X4_compareProducts_78_84_84 lm_X11_272 li_X4_compareProducts (by decide) (by decide) rfl rfl rfl (by decide) rfl rfl (Nat.le_of_ble_eq_true rfl) ⟨Nat.le_refl _, Or.inl rfl⟩ dX11_keepsTried_12 ⟨rfl, hV0⟩ (fun r4 V5 hp6 => ?_)
      obtain ⟨y7, rfl, b8, hV9, hF10, hE11⟩ := hp6
      replace hT := hT.trans (pf_call_eq hE11)
      change pm_J X 15 [(0, (3, 0))] [(0, y7)] 118 V5
      have hF12 := pm_ff.tr (pm_ff.rf (cs := [80, 82]) (fs := [(0, 12), (0, 13), (79, 1), (81, 1)]) (V := V0)) hF10 (by decide) (by decide)
      have e13 : V5 0 6 = 78 := by rw [hF10 0 6 (by decide) (by decide)]; exact e1
      have e14 : V5 0 13 = 84 := by rw [hF10 0 13 (by decide) (by decide)]; exact e2
      have e15 : V5 0 12 = 84 := by rw [hF10 0 12 (by decide) (by decide)]; exact e3
      refine pm_if_gt (tgt := 20) hC ⟨by omega, by omega⟩ dX11_keepsTried_15 (by decide) (fun c16 => ?_) (fun c16 => ?_)
      · skip
        replace hT := hT.trans (if_pos c16)
        refine pm_aload_n hC 0 (by decide) dX11_keepsTried_20 rfl ?_
        refine pm_getf (v := 84) hC 0 fl_X11_93 rfl rfl (by decide) rfl e15 dX11_keepsTried_21 ?_
        refine pm_astore_n (lv' := [(1, (3, 84)), (0, (3, 0))]) hC (by decide) dX11_keepsTried_24 (by decide) rfl ?_
        refine pm_aload_n hC 1 (by decide) dX11_keepsTried_25 rfl ?_
        refine pm_aload_n hC 1 (by decide) dX11_keepsTried_26 rfl ?_
        refine pm_getf (v := 84) hC 0 fl_X11_97 rfl rfl (by decide) rfl e14 dX11_keepsTried_27 ?_
        refine pm_putf hC 0 fl_X11_93 rfl rfl rfl (by decide) rfl trivial dX11_keepsTried_30 ?_
        refine pm_aload_n hC 1 (by decide) dX11_keepsTried_33 rfl ?_
        refine pm_aload_n hC 0 (by decide) dX11_keepsTried_34 rfl ?_
        refine pm_putf hC 0 fl_X11_97 rfl rfl rfl (by decide) rfl trivial dX11_keepsTried_35 ?_
        refine pm_iconst (v := 1) hC dX11_keepsTried_38 ?_
        exact pm_iret hC hR (pm_narZ (by omega)) ⟨1, rfl, ⟨by omega, by omega⟩, ((hV9.put2 0 12 (x := 84) (lo := 84) (hi := 87) rfl ⟨by omega, by decide⟩).put2 0 13 (x := 84) (lo := 84) (hi := 87) rfl ⟨by omega, by decide⟩), ((hF12.upf 0 12 84 rfl).upf 0 13 84 rfl), hT⟩ dX11_keepsTried_39
      · skip
        replace hT := hT.trans (if_neg (Int.not_lt.mpr c16))
        refine pm_iconst (v := 0) hC dX11_keepsTried_18 ?_
        exact pm_iret hC hR (pm_narZ (by omega)) ⟨0, rfl, ⟨by omega, by omega⟩, hV9, hF12, hT⟩ dX11_keepsTried_19
    · skip
      replace hT := hT.trans (if_neg (by rw [e3]; decide))
      refine pm_getf (v := 87) hC 0 fl_X11_93 rfl rfl (by decide) rfl e3 dX11_keepsTried_9 ?_
      refine pm_callV (ci := 4) (as := [(3, 84), (3, 87)]) (st := []) hC 78 fD_X4_compareProducts_78_84_87 lm_X11_272 li_X4_compareProducts (by decide) (by decide) rfl rfl rfl (by decide) rfl rfl (Nat.le_of_ble_eq_true rfl) ⟨Nat.le_refl _, Or.inl rfl⟩ dX11_keepsTried_12 ⟨rfl, hV0⟩ (fun r17 V18 hp19 => ?_)
      obtain ⟨y20, rfl, b21, hV22, hF23, hE24⟩ := hp19
      replace hT := hT.trans (pf_call_eq hE24)
      change pm_J X 15 [(0, (3, 0))] [(0, y20)] 118 V18
      have hF25 := pm_ff.tr (pm_ff.rf (cs := [80, 82]) (fs := [(0, 12), (0, 13), (79, 1), (81, 1)]) (V := V0)) hF23 (by decide) (by decide)
      have e26 : V18 0 6 = 78 := by rw [hF23 0 6 (by decide) (by decide)]; exact e1
      have e27 : V18 0 13 = 84 := by rw [hF23 0 13 (by decide) (by decide)]; exact e2
      have e28 : V18 0 12 = 87 := by rw [hF23 0 12 (by decide) (by decide)]; exact e3
      refine pm_if_gt (tgt := 20) hC ⟨by omega, by omega⟩ dX11_keepsTried_15 (by decide) (fun c29 => ?_) (fun c29 => ?_)
      · skip
        replace hT := hT.trans (if_pos c29)
        refine pm_aload_n hC 0 (by decide) dX11_keepsTried_20 rfl ?_
        refine pm_getf (v := 87) hC 0 fl_X11_93 rfl rfl (by decide) rfl e28 dX11_keepsTried_21 ?_
        refine pm_astore_n (lv' := [(1, (3, 87)), (0, (3, 0))]) hC (by decide) dX11_keepsTried_24 (by decide) rfl ?_
        refine pm_aload_n hC 1 (by decide) dX11_keepsTried_25 rfl ?_
        refine pm_aload_n hC 1 (by decide) dX11_keepsTried_26 rfl ?_
        refine pm_getf (v := 84) hC 0 fl_X11_97 rfl rfl (by decide) rfl e27 dX11_keepsTried_27 ?_
        refine pm_putf hC 0 fl_X11_93 rfl rfl rfl (by decide) rfl trivial dX11_keepsTried_30 ?_
        refine pm_aload_n hC 1 (by decide) dX11_keepsTried_33 rfl ?_
        refine pm_aload_n hC 0 (by decide) dX11_keepsTried_34 rfl ?_
        refine pm_putf hC 0 fl_X11_97 rfl rfl rfl (by decide) rfl trivial dX11_keepsTried_35 ?_
        refine pm_iconst (v := 1) hC dX11_keepsTried_38 ?_
        exact pm_iret hC hR (pm_narZ (by omega)) ⟨1, rfl, ⟨by omega, by omega⟩, ((hV22.put2 0 12 (x := 84) (lo := 84) (hi := 87) rfl ⟨by omega, by decide⟩).put2 0 13 (x := 87) (lo := 84) (hi := 87) rfl ⟨by omega, by decide⟩), ((hF25.upf 0 12 84 rfl).upf 0 13 87 rfl), hT⟩ dX11_keepsTried_39
      · skip
        replace hT := hT.trans (if_neg (Int.not_lt.mpr c29))
        refine pm_iconst (v := 0) hC dX11_keepsTried_18 ?_
        exact pm_iret hC hR (pm_narZ (by omega)) ⟨0, rfl, ⟨by omega, by omega⟩, hV22, hF25, hT⟩ dX11_keepsTried_19
  · skip
    replace hT := hT.trans (if_neg (by rw [e2]; decide))
    refine pm_getf (v := 87) hC 0 fl_X11_97 rfl rfl (by decide) rfl e2 dX11_keepsTried_5 ?_
    refine pm_aload_n hC 0 (by decide) dX11_keepsTried_8 rfl ?_
    rcases hV0.get2 0 12 (lo := 84) (hi := 87) (by decide) (by decide) rfl with e30 | e30
    · skip
      replace hT := hT.trans (if_pos e30)
      refine pm_getf (v := 84) hC 0 fl_X11_93 rfl rfl (by decide) rfl e30 dX11_keepsTried_9 ?_
      refine pm_callV (ci := 4) (as := [(3, 87), (3, 84)]) (st := []) hC 78 fD_X4_compareProducts_78_87_84 lm_X11_272 li_X4_compareProducts (by decide) (by decide) rfl rfl rfl (by decide) rfl rfl (Nat.le_of_ble_eq_true rfl) ⟨Nat.le_refl _, Or.inl rfl⟩ dX11_keepsTried_12 ⟨rfl, hV0⟩ (fun r31 V32 hp33 => ?_)
      obtain ⟨y34, rfl, b35, hV36, hF37, hE38⟩ := hp33
      replace hT := hT.trans (pf_call_eq hE38)
      change pm_J X 15 [(0, (3, 0))] [(0, y34)] 118 V32
      have hF39 := pm_ff.tr (pm_ff.rf (cs := [80, 82]) (fs := [(0, 12), (0, 13), (79, 1), (81, 1)]) (V := V0)) hF37 (by decide) (by decide)
      have e40 : V32 0 6 = 78 := by rw [hF37 0 6 (by decide) (by decide)]; exact e1
      have e41 : V32 0 13 = 87 := by rw [hF37 0 13 (by decide) (by decide)]; exact e2
      have e42 : V32 0 12 = 84 := by rw [hF37 0 12 (by decide) (by decide)]; exact e30
      refine pm_if_gt (tgt := 20) hC ⟨by omega, by omega⟩ dX11_keepsTried_15 (by decide) (fun c43 => ?_) (fun c43 => ?_)
      · skip
        replace hT := hT.trans (if_pos c43)
        refine pm_aload_n hC 0 (by decide) dX11_keepsTried_20 rfl ?_
        refine pm_getf (v := 84) hC 0 fl_X11_93 rfl rfl (by decide) rfl e42 dX11_keepsTried_21 ?_
        refine pm_astore_n (lv' := [(1, (3, 84)), (0, (3, 0))]) hC (by decide) dX11_keepsTried_24 (by decide) rfl ?_
        refine pm_aload_n hC 1 (by decide) dX11_keepsTried_25 rfl ?_
        refine pm_aload_n hC 1 (by decide) dX11_keepsTried_26 rfl ?_
        refine pm_getf (v := 87) hC 0 fl_X11_97 rfl rfl (by decide) rfl e41 dX11_keepsTried_27 ?_
        refine pm_putf hC 0 fl_X11_93 rfl rfl rfl (by decide) rfl trivial dX11_keepsTried_30 ?_
        refine pm_aload_n hC 1 (by decide) dX11_keepsTried_33 rfl ?_
        refine pm_aload_n hC 0 (by decide) dX11_keepsTried_34 rfl ?_
        refine pm_putf hC 0 fl_X11_97 rfl rfl rfl (by decide) rfl trivial dX11_keepsTried_35 ?_
        refine pm_iconst (v := 1) hC dX11_keepsTried_38 ?_
        exact pm_iret hC hR (pm_narZ (by omega)) ⟨1, rfl, ⟨by omega, by omega⟩, ((hV36.put2 0 12 (x := 87) (lo := 84) (hi := 87) rfl ⟨by omega, by decide⟩).put2 0 13 (x := 84) (lo := 84) (hi := 87) rfl ⟨by omega, by decide⟩), ((hF39.upf 0 12 87 rfl).upf 0 13 84 rfl), hT⟩ dX11_keepsTried_39
      · skip
        replace hT := hT.trans (if_neg (Int.not_lt.mpr c43))
        refine pm_iconst (v := 0) hC dX11_keepsTried_18 ?_
        exact pm_iret hC hR (pm_narZ (by omega)) ⟨0, rfl, ⟨by omega, by omega⟩, hV36, hF39, hT⟩ dX11_keepsTried_19
    · skip
      replace hT := hT.trans (if_neg (by rw [e30]; decide))
      refine pm_getf (v := 87) hC 0 fl_X11_93 rfl rfl (by decide) rfl e30 dX11_keepsTried_9 ?_
      refine pm_callV (ci := 4) (as := [(3, 87), (3, 87)]) (st := []) hC 78 fD_X4_compareProducts_78_87_87 lm_X11_272 li_X4_compareProducts (by decide) (by decide) rfl rfl rfl (by decide) rfl rfl (Nat.le_of_ble_eq_true rfl) ⟨Nat.le_refl _, Or.inl rfl⟩ dX11_keepsTried_12 ⟨rfl, hV0⟩ (fun r44 V45 hp46 => ?_)
      obtain ⟨y47, rfl, b48, hV49, hF50, hE51⟩ := hp46
      replace hT := hT.trans (pf_call_eq hE51)
      change pm_J X 15 [(0, (3, 0))] [(0, y47)] 118 V45
      have hF52 := pm_ff.tr (pm_ff.rf (cs := [80, 82]) (fs := [(0, 12), (0, 13), (79, 1), (81, 1)]) (V := V0)) hF50 (by decide) (by decide)
      have e53 : V45 0 6 = 78 := by rw [hF50 0 6 (by decide) (by decide)]; exact e1
      have e54 : V45 0 13 = 87 := by rw [hF50 0 13 (by decide) (by decide)]; exact e2
      have e55 : V45 0 12 = 87 := by rw [hF50 0 12 (by decide) (by decide)]; exact e30
      refine pm_if_gt (tgt := 20) hC ⟨by omega, by omega⟩ dX11_keepsTried_15 (by decide) (fun c56 => ?_) (fun c56 => ?_)
      · skip
        replace hT := hT.trans (if_pos c56)
        refine pm_aload_n hC 0 (by decide) dX11_keepsTried_20 rfl ?_
        refine pm_getf (v := 87) hC 0 fl_X11_93 rfl rfl (by decide) rfl e55 dX11_keepsTried_21 ?_
        refine pm_astore_n (lv' := [(1, (3, 87)), (0, (3, 0))]) hC (by decide) dX11_keepsTried_24 (by decide) rfl ?_
        refine pm_aload_n hC 1 (by decide) dX11_keepsTried_25 rfl ?_
        refine pm_aload_n hC 1 (by decide) dX11_keepsTried_26 rfl ?_
        refine pm_getf (v := 87) hC 0 fl_X11_97 rfl rfl (by decide) rfl e54 dX11_keepsTried_27 ?_
        refine pm_putf hC 0 fl_X11_93 rfl rfl rfl (by decide) rfl trivial dX11_keepsTried_30 ?_
        refine pm_aload_n hC 1 (by decide) dX11_keepsTried_33 rfl ?_
        refine pm_aload_n hC 0 (by decide) dX11_keepsTried_34 rfl ?_
        refine pm_putf hC 0 fl_X11_97 rfl rfl rfl (by decide) rfl trivial dX11_keepsTried_35 ?_
        refine pm_iconst (v := 1) hC dX11_keepsTried_38 ?_
        exact pm_iret hC hR (pm_narZ (by omega)) ⟨1, rfl, ⟨by omega, by omega⟩, ((hV49.put2 0 12 (x := 87) (lo := 84) (hi := 87) rfl ⟨by omega, by decide⟩).put2 0 13 (x := 87) (lo := 84) (hi := 87) rfl ⟨by omega, by decide⟩), ((hF52.upf 0 12 87 rfl).upf 0 13 87 rfl), hT⟩ dX11_keepsTried_39
      · skip
        replace hT := hT.trans (if_neg (Int.not_lt.mpr c56))
        refine pm_iconst (v := 0) hC dX11_keepsTried_18 ?_
        exact pm_iret hC hR (pm_narZ (by omega)) ⟨0, rfl, ⟨by omega, by omega⟩, hV49, hF52, hT⟩ dX11_keepsTried_19
set_option maxHeartbeats 4000000 in
set_option maxRecDepth 100000 in
theorem fD_X11_best_0 (a1 : Int) (h0 : (-2147483648) ≤ a1 ∧ a1 ≤ 2147483647) : pm_K 6 yX11_best cX11_best 4 (some .int) (fun av V => av = [(3, 0), (0, a1)] ∧ pm_ok 0 90 V) (fun _ V r V' => ∃ y, r = some (0, y) ∧ ((-1) ≤ y ∧ y ≤ 8) ∧ pm_ok 0 90 V' ∧ pm_ff [74, 75, 76, 77, 80, 82, 85, 86, 88, 89] [(0, 12), (0, 13), (73, 0), (73, 1), (73, 2), (73, 3), (73, 4), (73, 5), (73, 6), (73, 7), (73, 10), (73, 11), (73, 12), (73, 14), (79, 1), (81, 1), (84, 0), (87, 0)] V V' ∧ F_X11_best a1 V = (y, V')) := by
  refine pm_MT.of (by decide) ⟨Nat.le_refl _, by decide⟩ (fun av V h => by rw [h.1]; exact (by decide : pm_words [(3, 0), (0, 0)] ≤ 4)) ?_
  rintro X av V0 hC - hR ⟨rfl, hV0⟩
  change pm_J X 0 [(0, (3, 0)), (1, (0, a1))] [] 118 V0
  have hT := F_X11_best_eq a1 V0
  refine pm_aload_n hC 0 (by decide) dX11_best_0 rfl ?_
  refine pm_callV (ci := 11) (as := []) (st := []) hC 0 fD_X11_hasScene_0 lm_X11_165 li_X11_hasScene (by decide) (by decide) rfl rfl rfl (by decide) rfl rfl (Nat.le_of_ble_eq_true rfl) ⟨Nat.le_refl _, Or.inl rfl⟩ dX11_best_1 ⟨rfl, hV0⟩ (fun r1 V2 hp3 => ?_)
  obtain ⟨y4, rfl, b5, rfl, hE6⟩ := hp3
  replace hT := hT.trans (pf_call_eq hE6)
  change pm_J X 4 [(0, (3, 0)), (1, (0, a1))] [(0, y4)] 118 V0
  refine pm_if_eq (tgt := 15) hC ⟨by omega, by omega⟩ dX11_best_4 (by decide) (fun c7 => ?_) (fun c7 => ?_)
  · skip
    replace hT := hT.trans (if_pos c7)
    refine pm_iconst (v := (-1)) hC dX11_best_15 ?_
    exact pm_iret hC hR pm_nar0 ⟨(-1), rfl, ⟨by omega, by omega⟩, hV0, (pm_ff.rf (cs := [74, 75, 76, 77, 80, 82, 85, 86, 88, 89]) (fs := [(0, 12), (0, 13), (73, 0), (73, 1), (73, 2), (73, 3), (73, 4), (73, 5), (73, 6), (73, 7), (73, 10), (73, 11), (73, 12), (73, 14), (79, 1), (81, 1), (84, 0), (87, 0)]) (V := V0)), hT⟩ dX11_best_16
  · skip
    replace hT := hT.trans (if_neg c7)
    refine pm_aload_n hC 0 (by decide) dX11_best_7 rfl ?_
    refine pm_iload_n hC 1 dX11_best_8 rfl ?_
    refine pm_callV (ci := 11) (as := [(0, a1)]) (st := []) hC 0 (fD_X11_isPersonOrAll_0 a1 ⟨by omega, by omega⟩) lm_X11_265 li_X11_isPersonOrAll (by decide) (by decide) rfl rfl rfl (by decide) rfl rfl (Nat.le_of_ble_eq_true rfl) ⟨Nat.le_refl _, Or.inl rfl⟩ dX11_best_9 ⟨rfl, hV0⟩ (fun r8 V9 hp10 => ?_)
    obtain ⟨y11, rfl, b12, rfl, hE13⟩ := hp10
    replace hT := hT.trans (pf_call_eq hE13)
    change pm_J X 12 [(0, (3, 0)), (1, (0, a1))] [(0, y11)] 118 V0
    refine pm_if_ne (tgt := 17) hC ⟨by omega, by omega⟩ dX11_best_12 (by decide) (fun c14 => ?_) (fun c14 => ?_)
    · skip
      replace hT := hT.trans (if_pos c14)
      refine pm_iconst (v := 0) hC dX11_best_17 ?_
      refine pm_istore_n (lv' := [(2, (0, 0)), (0, (3, 0)), (1, (0, a1))]) hC dX11_best_18 (by decide) rfl ?_
      refine pm_aload_n hC 1 (by decide) dX11_best_19 rfl ?_
      refine pm_aload_n hC 1 (by decide) dX11_best_20 rfl ?_
      rcases hV0.get2 0 12 (lo := 84) (hi := 87) (by decide) (by decide) rfl with e15 | e15
      · skip
        replace hT := hT.trans (if_pos e15)
        refine pm_getf (v := 84) hC 0 fl_X11_93 rfl rfl (by decide) rfl e15 dX11_best_21 ?_
        refine pm_iconst (v := 0) hC dX11_best_24 ?_
        refine pm_iload_n hC 2 dX11_best_25 rfl ?_
        refine pm_callV (ci := 11) (as := [(3, 84), (0, 0), (0, a1)]) (st := []) hC 0 (fD_X11_gather_0_84 0 a1 ⟨by decide, by decide⟩ ⟨by omega, by omega⟩) lm_X11_268 li_X11_gather (by decide) (by decide) rfl rfl rfl (by decide) rfl rfl (Nat.le_of_ble_eq_true rfl) ⟨Nat.le_refl _, Or.inl rfl⟩ dX11_best_26 ⟨rfl, hV0⟩ (fun r16 V17 hp18 => ?_)
        obtain ⟨rfl, hV19, hF20, hE21⟩ := hp18
        replace hT := hT.trans (pf_call_eq hE21)
        change pm_J X 29 [(2, (0, 0)), (0, (3, 0)), (1, (0, a1))] [] 118 V17
        have hF22 := pm_ff.tr (pm_ff.rf (cs := [74, 75, 76, 77, 80, 82, 85, 86, 88, 89]) (fs := [(0, 12), (0, 13), (73, 0), (73, 1), (73, 2), (73, 3), (73, 4), (73, 5), (73, 6), (73, 7), (73, 10), (73, 11), (73, 12), (73, 14), (79, 1), (81, 1), (84, 0), (87, 0)]) (V := V0)) hF20 (by decide) (by decide)
        have e23 : V17 0 12 = 84 := by rw [hF20 0 12 (by decide) (by decide)]; exact e15
        refine pm_iconst (v := 1) hC dX11_best_29 ?_
        refine pm_istore_n (lv' := [(3, (0, 1)), (2, (0, 0)), (0, (3, 0)), (1, (0, a1))]) hC dX11_best_30 (by decide) rfl ?_
        obtain ⟨B31, hB32, hT⟩ := pf_loop hT
        have L34 : ∀ (N36 : Nat) (x24 : Int) (x26 : Int) (V28 : pm_M), (0 ≤ x24 ∧ x24 ≤ 8) → (1 ≤ x26 ∧ x26 ≤ 8) → pm_ok 0 90 V28 → pm_ff [74, 75, 76, 77, 80, 82, 85, 86, 88, 89] [(0, 12), (0, 13), (73, 0), (73, 1), (73, 2), (73, 3), (73, 4), (73, 5), (73, 6), (73, 7), (73, 10), (73, 11), (73, 12), (73, 14), (79, 1), (81, 1), (84, 0), (87, 0)] V0 V28 → F_X11_best a1 V0 = pf_val ((0 : Int), V0) B31 (x24, x26, V28) → (Int.toNat (8 - x26)) = N36 → pm_J X 31 [(0, (3, 0)), (1, (0, a1)), (2, (0, x24)), (3, (0, x26))] [] 118 V28 := by
          intro N36
          induction N36 using Nat.strongRecOn with
          | _ N36 ih37 =>
          intro x24 x26 V28 b25 b27 hV29 hF30 hT hm35
          have hb33 := congrFun hB32 (x24, x26, V28)
          refine pm_iload_n hC 3 dX11_best_31 rfl ?_
          refine pm_bipush (v := 7) hC dX11_best_32 (by decide) ?_
          refine pm_icmp_ge (tgt := 62) hC ⟨by omega, by omega⟩ ⟨by decide, by decide⟩ dX11_best_34 (by decide) (fun c38 => ?_) (fun c38 => ?_)
          · skip
            replace hb33 := hb33.trans (if_pos c38)
            refine pm_iload_n hC 2 dX11_best_62 rfl ?_
            have hT := hT.trans (pf_val_inr hb33)
            exact pm_iret hC hR pm_nar0 ⟨x24, rfl, ⟨by omega, by omega⟩, hV29, hF30, hT⟩ dX11_best_63
          · skip
            replace hb33 := hb33.trans (if_neg (Int.not_le.mpr c38))
            refine pm_aload_n hC 0 (by decide) dX11_best_37 rfl ?_
            refine pm_aload_n hC 0 (by decide) dX11_best_38 rfl ?_
            rcases hV29.get2 0 13 (lo := 84) (hi := 87) (by decide) (by decide) rfl with e39 | e39
            · skip
              replace hb33 := hb33.trans (if_pos e39)
              refine pm_getf (v := 84) hC 0 fl_X11_97 rfl rfl (by decide) rfl e39 dX11_best_39 ?_
              refine pm_iload_n hC 3 dX11_best_42 rfl ?_
              refine pm_iload_n hC 1 dX11_best_43 rfl ?_
              refine pm_callV (ci := 11) (as := [(3, 84), (0, x26), (0, a1)]) (st := []) hC 0 (fD_X11_gather_0_84 x26 a1 ⟨by omega, by omega⟩ ⟨by omega, by omega⟩) lm_X11_268 li_X11_gather (by decide) (by decide) rfl rfl rfl (by decide) rfl rfl (Nat.le_of_ble_eq_true rfl) ⟨Nat.le_refl _, Or.inl rfl⟩ dX11_best_44 ⟨rfl, hV29⟩ (fun r40 V41 hp42 => ?_)
              obtain ⟨rfl, hV43, hF44, hE45⟩ := hp42
              replace hb33 := hb33.trans (pf_call_eq hE45)
              change pm_J X 47 [(0, (3, 0)), (1, (0, a1)), (2, (0, x24)), (3, (0, x26))] [] 118 V41
              have hF46 := pm_ff.tr hF30 hF44 (by decide) (by decide)
              have e47 : V41 0 13 = 84 := by rw [hF44 0 13 (by decide) (by decide)]; exact e39
              refine pm_aload_n hC 0 (by decide) dX11_best_47 rfl ?_
              refine pm_callV (ci := 11) (as := []) (st := []) hC 0 fD_X11_keepsTried_0 lm_X11_276 li_X11_keepsTried (by decide) (by decide) rfl rfl rfl (by decide) rfl rfl (Nat.le_of_ble_eq_true rfl) ⟨Nat.le_refl _, Or.inl rfl⟩ dX11_best_48 ⟨rfl, hV43⟩ (fun r48 V49 hp50 => ?_)
              obtain ⟨y51, rfl, b52, hV53, hF54, hE55⟩ := hp50
              replace hb33 := hb33.trans (pf_call_eq hE55)
              change pm_J X 51 [(0, (3, 0)), (1, (0, a1)), (2, (0, x24)), (3, (0, x26))] [(0, y51)] 118 V49
              have hF56 := pm_ff.tr hF46 hF54 (by decide) (by decide)
              refine pm_if_eq (tgt := 56) hC ⟨by omega, by omega⟩ dX11_best_51 (by decide) (fun c57 => ?_) (fun c57 => ?_)
              · skip
                replace hb33 := hb33.trans (if_pos c57)
                obtain ⟨x58, ei59⟩ : ∃ y : Int, x26 + 1 = y := ⟨_, rfl⟩
                replace hb33 := hb33.trans (pf_let_eq ei59)
                refine pm_iinc (y := x58) (lv' := [(3, (0, x58)), (0, (3, 0)), (1, (0, a1)), (2, (0, x24))]) hC 3 dX11_best_56 (by decide) rfl ei59 rfl ?_
                refine pm_goto (tgt := 31) hC dX11_best_59 (by decide) ?_
                refine pm_lvsub [1, 2, 3, 0] (lv' := [(0, (3, 0)), (1, (0, a1)), (2, (0, x24)), (3, (0, x58))]) rfl ?_
                exact ih37 _ (by omega) x24 x58 V49 ⟨by omega, by omega⟩ ⟨by omega, by omega⟩ hV53 hF56 (hT.trans (pf_val_inl hb33)) rfl
              · skip
                replace hb33 := hb33.trans (if_neg c57)
                refine pm_iload_n hC 3 dX11_best_54 rfl ?_
                refine pm_istore_n (lv' := [(2, (0, x26)), (0, (3, 0)), (1, (0, a1)), (3, (0, x26))]) hC dX11_best_55 (by decide) rfl ?_
                obtain ⟨x60, ei61⟩ : ∃ y : Int, x26 + 1 = y := ⟨_, rfl⟩
                replace hb33 := hb33.trans (pf_let_eq ei61)
                refine pm_iinc (y := x60) (lv' := [(3, (0, x60)), (2, (0, x26)), (0, (3, 0)), (1, (0, a1))]) hC 3 dX11_best_56 (by decide) rfl ei61 rfl ?_
                refine pm_goto (tgt := 31) hC dX11_best_59 (by decide) ?_
                refine pm_lvsub [2, 3, 1, 0] (lv' := [(0, (3, 0)), (1, (0, a1)), (2, (0, x26)), (3, (0, x60))]) rfl ?_
                exact ih37 _ (by omega) x26 x60 V49 ⟨by omega, by omega⟩ ⟨by omega, by omega⟩ hV53 hF56 (hT.trans (pf_val_inl hb33)) rfl
            · skip
              replace hb33 := hb33.trans (if_neg (by rw [e39]; decide))
              refine pm_getf (v := 87) hC 0 fl_X11_97 rfl rfl (by decide) rfl e39 dX11_best_39 ?_
              refine pm_iload_n hC 3 dX11_best_42 rfl ?_
              refine pm_iload_n hC 1 dX11_best_43 rfl ?_
              refine pm_callV (ci := 11) (as := [(3, 87), (0, x26), (0, a1)]) (st := []) hC 0 (fD_X11_gather_0_87 x26 a1 ⟨by omega, by omega⟩ ⟨by omega, by omega⟩) lm_X11_268 li_X11_gather (by decide) (by decide) rfl rfl rfl (by decide) rfl rfl (Nat.le_of_ble_eq_true rfl) ⟨Nat.le_refl _, Or.inl rfl⟩ dX11_best_44 ⟨rfl, hV29⟩ (fun r62 V63 hp64 => ?_)
              obtain ⟨rfl, hV65, hF66, hE67⟩ := hp64
              replace hb33 := hb33.trans (pf_call_eq hE67)
              change pm_J X 47 [(0, (3, 0)), (1, (0, a1)), (2, (0, x24)), (3, (0, x26))] [] 118 V63
              have hF68 := pm_ff.tr hF30 hF66 (by decide) (by decide)
              have e69 : V63 0 13 = 87 := by rw [hF66 0 13 (by decide) (by decide)]; exact e39
              refine pm_aload_n hC 0 (by decide) dX11_best_47 rfl ?_
              refine pm_callV (ci := 11) (as := []) (st := []) hC 0 fD_X11_keepsTried_0 lm_X11_276 li_X11_keepsTried (by decide) (by decide) rfl rfl rfl (by decide) rfl rfl (Nat.le_of_ble_eq_true rfl) ⟨Nat.le_refl _, Or.inl rfl⟩ dX11_best_48 ⟨rfl, hV65⟩ (fun r70 V71 hp72 => ?_)
              obtain ⟨y73, rfl, b74, hV75, hF76, hE77⟩ := hp72
              replace hb33 := hb33.trans (pf_call_eq hE77)
              change pm_J X 51 [(0, (3, 0)), (1, (0, a1)), (2, (0, x24)), (3, (0, x26))] [(0, y73)] 118 V71
              have hF78 := pm_ff.tr hF68 hF76 (by decide) (by decide)
              refine pm_if_eq (tgt := 56) hC ⟨by omega, by omega⟩ dX11_best_51 (by decide) (fun c79 => ?_) (fun c79 => ?_)
              · skip
                replace hb33 := hb33.trans (if_pos c79)
                obtain ⟨x80, ei81⟩ : ∃ y : Int, x26 + 1 = y := ⟨_, rfl⟩
                replace hb33 := hb33.trans (pf_let_eq ei81)
                refine pm_iinc (y := x80) (lv' := [(3, (0, x80)), (0, (3, 0)), (1, (0, a1)), (2, (0, x24))]) hC 3 dX11_best_56 (by decide) rfl ei81 rfl ?_
                refine pm_goto (tgt := 31) hC dX11_best_59 (by decide) ?_
                refine pm_lvsub [1, 2, 3, 0] (lv' := [(0, (3, 0)), (1, (0, a1)), (2, (0, x24)), (3, (0, x80))]) rfl ?_
                exact ih37 _ (by omega) x24 x80 V71 ⟨by omega, by omega⟩ ⟨by omega, by omega⟩ hV75 hF78 (hT.trans (pf_val_inl hb33)) rfl
              · skip
                replace hb33 := hb33.trans (if_neg c79)
                refine pm_iload_n hC 3 dX11_best_54 rfl ?_
                refine pm_istore_n (lv' := [(2, (0, x26)), (0, (3, 0)), (1, (0, a1)), (3, (0, x26))]) hC dX11_best_55 (by decide) rfl ?_
                obtain ⟨x82, ei83⟩ : ∃ y : Int, x26 + 1 = y := ⟨_, rfl⟩
                replace hb33 := hb33.trans (pf_let_eq ei83)
                refine pm_iinc (y := x82) (lv' := [(3, (0, x82)), (2, (0, x26)), (0, (3, 0)), (1, (0, a1))]) hC 3 dX11_best_56 (by decide) rfl ei83 rfl ?_
                refine pm_goto (tgt := 31) hC dX11_best_59 (by decide) ?_
                refine pm_lvsub [2, 3, 1, 0] (lv' := [(0, (3, 0)), (1, (0, a1)), (2, (0, x26)), (3, (0, x82))]) rfl ?_
                exact ih37 _ (by omega) x26 x82 V71 ⟨by omega, by omega⟩ ⟨by omega, by omega⟩ hV75 hF78 (hT.trans (pf_val_inl hb33)) rfl
        refine pm_lvsub [2, 3, 1, 0] (lv' := [(0, (3, 0)), (1, (0, a1)), (2, (0, 0)), (3, (0, 1))]) rfl ?_
        exact L34 _ 0 1 V17 ⟨by decide, by decide⟩ ⟨by decide, by decide⟩ hV19 hF22 hT rfl
      · skip
        replace hT := hT.trans (if_neg (by rw [e15]; decide))
        refine pm_getf (v := 87) hC 0 fl_X11_93 rfl rfl (by decide) rfl e15 dX11_best_21 ?_
        refine pm_iconst (v := 0) hC dX11_best_24 ?_
        refine pm_iload_n hC 2 dX11_best_25 rfl ?_
        refine pm_callV (ci := 11) (as := [(3, 87), (0, 0), (0, a1)]) (st := []) hC 0 (fD_X11_gather_0_87 0 a1 ⟨by decide, by decide⟩ ⟨by omega, by omega⟩) lm_X11_268 li_X11_gather (by decide) (by decide) rfl rfl rfl (by decide) rfl rfl (Nat.le_of_ble_eq_true rfl) ⟨Nat.le_refl _, Or.inl rfl⟩ dX11_best_26 ⟨rfl, hV0⟩ (fun r84 V85 hp86 => ?_)
        obtain ⟨rfl, hV87, hF88, hE89⟩ := hp86
        replace hT := hT.trans (pf_call_eq hE89)
        change pm_J X 29 [(2, (0, 0)), (0, (3, 0)), (1, (0, a1))] [] 118 V85
        have hF90 := pm_ff.tr (pm_ff.rf (cs := [74, 75, 76, 77, 80, 82, 85, 86, 88, 89]) (fs := [(0, 12), (0, 13), (73, 0), (73, 1), (73, 2), (73, 3), (73, 4), (73, 5), (73, 6), (73, 7), (73, 10), (73, 11), (73, 12), (73, 14), (79, 1), (81, 1), (84, 0), (87, 0)]) (V := V0)) hF88 (by decide) (by decide)
        have e91 : V85 0 12 = 87 := by rw [hF88 0 12 (by decide) (by decide)]; exact e15
        refine pm_iconst (v := 1) hC dX11_best_29 ?_
        refine pm_istore_n (lv' := [(3, (0, 1)), (2, (0, 0)), (0, (3, 0)), (1, (0, a1))]) hC dX11_best_30 (by decide) rfl ?_
        obtain ⟨B99, hB100, hT⟩ := pf_loop hT
        have L102 : ∀ (N104 : Nat) (x92 : Int) (x94 : Int) (V96 : pm_M), (0 ≤ x92 ∧ x92 ≤ 8) → (1 ≤ x94 ∧ x94 ≤ 8) → pm_ok 0 90 V96 → pm_ff [74, 75, 76, 77, 80, 82, 85, 86, 88, 89] [(0, 12), (0, 13), (73, 0), (73, 1), (73, 2), (73, 3), (73, 4), (73, 5), (73, 6), (73, 7), (73, 10), (73, 11), (73, 12), (73, 14), (79, 1), (81, 1), (84, 0), (87, 0)] V0 V96 → F_X11_best a1 V0 = pf_val ((0 : Int), V0) B99 (x92, x94, V96) → (Int.toNat (8 - x94)) = N104 → pm_J X 31 [(0, (3, 0)), (1, (0, a1)), (2, (0, x92)), (3, (0, x94))] [] 118 V96 := by
          intro N104
          induction N104 using Nat.strongRecOn with
          | _ N104 ih105 =>
          intro x92 x94 V96 b93 b95 hV97 hF98 hT hm103
          have hb101 := congrFun hB100 (x92, x94, V96)
          refine pm_iload_n hC 3 dX11_best_31 rfl ?_
          refine pm_bipush (v := 7) hC dX11_best_32 (by decide) ?_
          refine pm_icmp_ge (tgt := 62) hC ⟨by omega, by omega⟩ ⟨by decide, by decide⟩ dX11_best_34 (by decide) (fun c106 => ?_) (fun c106 => ?_)
          · skip
            replace hb101 := hb101.trans (if_pos c106)
            refine pm_iload_n hC 2 dX11_best_62 rfl ?_
            have hT := hT.trans (pf_val_inr hb101)
            exact pm_iret hC hR pm_nar0 ⟨x92, rfl, ⟨by omega, by omega⟩, hV97, hF98, hT⟩ dX11_best_63
          · skip
            replace hb101 := hb101.trans (if_neg (Int.not_le.mpr c106))
            refine pm_aload_n hC 0 (by decide) dX11_best_37 rfl ?_
            refine pm_aload_n hC 0 (by decide) dX11_best_38 rfl ?_
            rcases hV97.get2 0 13 (lo := 84) (hi := 87) (by decide) (by decide) rfl with e107 | e107
            · skip
              replace hb101 := hb101.trans (if_pos e107)
              refine pm_getf (v := 84) hC 0 fl_X11_97 rfl rfl (by decide) rfl e107 dX11_best_39 ?_
              refine pm_iload_n hC 3 dX11_best_42 rfl ?_
              refine pm_iload_n hC 1 dX11_best_43 rfl ?_
              refine pm_callV (ci := 11) (as := [(3, 84), (0, x94), (0, a1)]) (st := []) hC 0 (fD_X11_gather_0_84 x94 a1 ⟨by omega, by omega⟩ ⟨by omega, by omega⟩) lm_X11_268 li_X11_gather (by decide) (by decide) rfl rfl rfl (by decide) rfl rfl (Nat.le_of_ble_eq_true rfl) ⟨Nat.le_refl _, Or.inl rfl⟩ dX11_best_44 ⟨rfl, hV97⟩ (fun r108 V109 hp110 => ?_)
              obtain ⟨rfl, hV111, hF112, hE113⟩ := hp110
              replace hb101 := hb101.trans (pf_call_eq hE113)
              change pm_J X 47 [(0, (3, 0)), (1, (0, a1)), (2, (0, x92)), (3, (0, x94))] [] 118 V109
              have hF114 := pm_ff.tr hF98 hF112 (by decide) (by decide)
              have e115 : V109 0 13 = 84 := by rw [hF112 0 13 (by decide) (by decide)]; exact e107
              refine pm_aload_n hC 0 (by decide) dX11_best_47 rfl ?_
              refine pm_callV (ci := 11) (as := []) (st := []) hC 0 fD_X11_keepsTried_0 lm_X11_276 li_X11_keepsTried (by decide) (by decide) rfl rfl rfl (by decide) rfl rfl (Nat.le_of_ble_eq_true rfl) ⟨Nat.le_refl _, Or.inl rfl⟩ dX11_best_48 ⟨rfl, hV111⟩ (fun r116 V117 hp118 => ?_)
              obtain ⟨y119, rfl, b120, hV121, hF122, hE123⟩ := hp118
              replace hb101 := hb101.trans (pf_call_eq hE123)
              change pm_J X 51 [(0, (3, 0)), (1, (0, a1)), (2, (0, x92)), (3, (0, x94))] [(0, y119)] 118 V117
              have hF124 := pm_ff.tr hF114 hF122 (by decide) (by decide)
              refine pm_if_eq (tgt := 56) hC ⟨by omega, by omega⟩ dX11_best_51 (by decide) (fun c125 => ?_) (fun c125 => ?_)
              · skip
                replace hb101 := hb101.trans (if_pos c125)
                obtain ⟨x126, ei127⟩ : ∃ y : Int, x94 + 1 = y := ⟨_, rfl⟩
                replace hb101 := hb101.trans (pf_let_eq ei127)
                refine pm_iinc (y := x126) (lv' := [(3, (0, x126)), (0, (3, 0)), (1, (0, a1)), (2, (0, x92))]) hC 3 dX11_best_56 (by decide) rfl ei127 rfl ?_
                refine pm_goto (tgt := 31) hC dX11_best_59 (by decide) ?_
                refine pm_lvsub [1, 2, 3, 0] (lv' := [(0, (3, 0)), (1, (0, a1)), (2, (0, x92)), (3, (0, x126))]) rfl ?_
                exact ih105 _ (by omega) x92 x126 V117 ⟨by omega, by omega⟩ ⟨by omega, by omega⟩ hV121 hF124 (hT.trans (pf_val_inl hb101)) rfl
              · skip
                replace hb101 := hb101.trans (if_neg c125)
                refine pm_iload_n hC 3 dX11_best_54 rfl ?_
                refine pm_istore_n (lv' := [(2, (0, x94)), (0, (3, 0)), (1, (0, a1)), (3, (0, x94))]) hC dX11_best_55 (by decide) rfl ?_
                obtain ⟨x128, ei129⟩ : ∃ y : Int, x94 + 1 = y := ⟨_, rfl⟩
                replace hb101 := hb101.trans (pf_let_eq ei129)
                refine pm_iinc (y := x128) (lv' := [(3, (0, x128)), (2, (0, x94)), (0, (3, 0)), (1, (0, a1))]) hC 3 dX11_best_56 (by decide) rfl ei129 rfl ?_
                refine pm_goto (tgt := 31) hC dX11_best_59 (by decide) ?_
                refine pm_lvsub [2, 3, 1, 0] (lv' := [(0, (3, 0)), (1, (0, a1)), (2, (0, x94)), (3, (0, x128))]) rfl ?_
                exact ih105 _ (by omega) x94 x128 V117 ⟨by omega, by omega⟩ ⟨by omega, by omega⟩ hV121 hF124 (hT.trans (pf_val_inl hb101)) rfl
            · skip
              replace hb101 := hb101.trans (if_neg (by rw [e107]; decide))
              refine pm_getf (v := 87) hC 0 fl_X11_97 rfl rfl (by decide) rfl e107 dX11_best_39 ?_
              refine pm_iload_n hC 3 dX11_best_42 rfl ?_
              refine pm_iload_n hC 1 dX11_best_43 rfl ?_
              refine pm_callV (ci := 11) (as := [(3, 87), (0, x94), (0, a1)]) (st := []) hC 0 (fD_X11_gather_0_87 x94 a1 ⟨by omega, by omega⟩ ⟨by omega, by omega⟩) lm_X11_268 li_X11_gather (by decide) (by decide) rfl rfl rfl (by decide) rfl rfl (Nat.le_of_ble_eq_true rfl) ⟨Nat.le_refl _, Or.inl rfl⟩ dX11_best_44 ⟨rfl, hV97⟩ (fun r130 V131 hp132 => ?_)
              obtain ⟨rfl, hV133, hF134, hE135⟩ := hp132
              replace hb101 := hb101.trans (pf_call_eq hE135)
              change pm_J X 47 [(0, (3, 0)), (1, (0, a1)), (2, (0, x92)), (3, (0, x94))] [] 118 V131
              have hF136 := pm_ff.tr hF98 hF134 (by decide) (by decide)
              have e137 : V131 0 13 = 87 := by rw [hF134 0 13 (by decide) (by decide)]; exact e107
              refine pm_aload_n hC 0 (by decide) dX11_best_47 rfl ?_
              refine pm_callV (ci := 11) (as := []) (st := []) hC 0 fD_X11_keepsTried_0 lm_X11_276 li_X11_keepsTried (by decide) (by decide) rfl rfl rfl (by decide) rfl rfl (Nat.le_of_ble_eq_true rfl) ⟨Nat.le_refl _, Or.inl rfl⟩ dX11_best_48 ⟨rfl, hV133⟩ (fun r138 V139 hp140 => ?_)
              obtain ⟨y141, rfl, b142, hV143, hF144, hE145⟩ := hp140
              replace hb101 := hb101.trans (pf_call_eq hE145)
              change pm_J X 51 [(0, (3, 0)), (1, (0, a1)), (2, (0, x92)), (3, (0, x94))] [(0, y141)] 118 V139
              have hF146 := pm_ff.tr hF136 hF144 (by decide) (by decide)
              refine pm_if_eq (tgt := 56) hC ⟨by omega, by omega⟩ dX11_best_51 (by decide) (fun c147 => ?_) (fun c147 => ?_)
              · skip
                replace hb101 := hb101.trans (if_pos c147)
                obtain ⟨x148, ei149⟩ : ∃ y : Int, x94 + 1 = y := ⟨_, rfl⟩
                replace hb101 := hb101.trans (pf_let_eq ei149)
                refine pm_iinc (y := x148) (lv' := [(3, (0, x148)), (0, (3, 0)), (1, (0, a1)), (2, (0, x92))]) hC 3 dX11_best_56 (by decide) rfl ei149 rfl ?_
                refine pm_goto (tgt := 31) hC dX11_best_59 (by decide) ?_
                refine pm_lvsub [1, 2, 3, 0] (lv' := [(0, (3, 0)), (1, (0, a1)), (2, (0, x92)), (3, (0, x148))]) rfl ?_
                exact ih105 _ (by omega) x92 x148 V139 ⟨by omega, by omega⟩ ⟨by omega, by omega⟩ hV143 hF146 (hT.trans (pf_val_inl hb101)) rfl
              · skip
                replace hb101 := hb101.trans (if_neg c147)
                refine pm_iload_n hC 3 dX11_best_54 rfl ?_
                refine pm_istore_n (lv' := [(2, (0, x94)), (0, (3, 0)), (1, (0, a1)), (3, (0, x94))]) hC dX11_best_55 (by decide) rfl ?_
                obtain ⟨x150, ei151⟩ : ∃ y : Int, x94 + 1 = y := ⟨_, rfl⟩
                replace hb101 := hb101.trans (pf_let_eq ei151)
                refine pm_iinc (y := x150) (lv' := [(3, (0, x150)), (2, (0, x94)), (0, (3, 0)), (1, (0, a1))]) hC 3 dX11_best_56 (by decide) rfl ei151 rfl ?_
                refine pm_goto (tgt := 31) hC dX11_best_59 (by decide) ?_
                refine pm_lvsub [2, 3, 1, 0] (lv' := [(0, (3, 0)), (1, (0, a1)), (2, (0, x94)), (3, (0, x150))]) rfl ?_
                exact ih105 _ (by omega) x94 x150 V139 ⟨by omega, by omega⟩ ⟨by omega, by omega⟩ hV143 hF146 (hT.trans (pf_val_inl hb101)) rfl
        refine pm_lvsub [2, 3, 1, 0] (lv' := [(0, (3, 0)), (1, (0, a1)), (2, (0, 0)), (3, (0, 1))]) rfl ?_
        exact L102 _ 0 1 V85 ⟨by decide, by decide⟩ ⟨by decide, by decide⟩ hV87 hF90 hT rfl
    · skip
      replace hT := hT.trans (if_neg (fun q => q c14))
      refine pm_iconst (v := (-1)) hC dX11_best_15 ?_
      exact pm_iret hC hR pm_nar0 ⟨(-1), rfl, ⟨by omega, by omega⟩, hV0, (pm_ff.rf (cs := [74, 75, 76, 77, 80, 82, 85, 86, 88, 89]) (fs := [(0, 12), (0, 13), (73, 0), (73, 1), (73, 2), (73, 3), (73, 4), (73, 5), (73, 6), (73, 7), (73, 10), (73, 11), (73, 12), (73, 14), (79, 1), (81, 1), (84, 0), (87, 0)]) (V := V0)), hT⟩ dX11_best_16
set_option maxHeartbeats 4000000 in
set_option maxRecDepth 100000 in
theorem fD_X11_trySpans_0 (a1 a2 a3 : Int) (h0 : 0 ≤ a1 ∧ a1 ≤ 9) (h1 : (-12) ≤ a2 ∧ a2 ≤ 12) (h2 : (-12) ≤ a3 ∧ a3 ≤ 12) : pm_K 6 yX11_trySpans cX11_trySpans 4 none (fun av V => av = [(3, 0), (0, a1), (0, a2), (0, a3)] ∧ pm_ok 0 90 V) (fun _ V r V' => r = none ∧ pm_ok 0 90 V' ∧ pm_ff [74, 75, 76, 77, 80, 82, 85, 86, 88, 89] [(0, 12), (0, 13), (0, 14), (0, 15), (73, 0), (73, 1), (73, 2), (73, 3), (73, 4), (73, 5), (73, 6), (73, 7), (73, 10), (73, 11), (73, 12), (73, 14), (79, 1), (81, 1), (84, 0), (87, 0)] V V' ∧ F_X11_trySpans a1 a2 a3 V = (0, V')) := by
  refine pm_MT.of (by decide) ⟨Nat.le_refl _, by decide⟩ (fun av V h => by rw [h.1]; exact (by decide : pm_words [(3, 0), (0, 0), (0, 0), (0, 0)] ≤ 4)) ?_
  rintro X av V0 hC - hR ⟨rfl, hV0⟩
  change pm_J X 0 [(0, (3, 0)), (1, (0, a1)), (2, (0, a2)), (3, (0, a3))] [] 118 V0
  have hT := F_X11_trySpans_eq a1 a2 a3 V0
  refine pm_aload_n hC 0 (by decide) dX11_trySpans_0 rfl ?_
  refine pm_aload_n hC 0 (by decide) dX11_trySpans_1 rfl ?_
  rcases hV0.get2 0 13 (lo := 84) (hi := 87) (by decide) (by decide) rfl with e1 | e1
  · skip
    replace hT := hT.trans (if_pos e1)
    refine pm_getf (v := 84) hC 0 fl_X11_97 rfl rfl (by decide) rfl e1 dX11_trySpans_2 ?_
    refine pm_iload_n hC 1 dX11_trySpans_5 rfl ?_
    refine pm_iload_n hC 2 dX11_trySpans_6 rfl ?_
    refine pm_iload_n hC 3 dX11_trySpans_7 rfl ?_
    refine pm_aload_n hC 0 (by decide) dX11_trySpans_8 rfl ?_
    have e2 : V0 0 3 = 4 := hV0.one 0 3 (by decide) (by decide) rfl
    refine pm_getf (v := 4) hC 0 fl_X11_24 rfl rfl (by decide) rfl e2 dX11_trySpans_9 ?_
    have e3 : V0 4 4 = 7 := hV0.one 4 4 (by decide) (by decide) rfl
    refine pm_getf (v := 7) hC 4 fl_X11_192 rfl rfl (by decide) rfl e3 dX11_trySpans_12 ?_
    refine pm_iload_n hC 1 dX11_trySpans_15 rfl ?_
    obtain ⟨y4, e5⟩ : ∃ y, V0 7 (a1 : Int).toNat = y := ⟨_, rfl⟩
    replace hT := hT.trans (pf_let_eq e5)
    have b6 := hV0.get 7 (a1 : Int).toNat (lo := 0) (hi := 16) (by decide) (show _ < 10 by omega) rfl
    rw [e5] at b6
    refine pm_iaload (len := 10) (v := y4) hC 7 rfl rfl (by decide) ⟨by omega, by omega⟩ (by decide) e5 dX11_trySpans_16 ?_
    refine pm_callV (ci := 11) (as := [(3, 84), (0, a1), (0, a2), (0, a3), (0, y4)]) (st := []) hC 0 (fD_X11_gatherOdds_0_84 a1 a2 a3 y4 ⟨by omega, by omega⟩ ⟨by omega, by omega⟩ ⟨by omega, by omega⟩ ⟨by omega, by omega⟩) lm_X11_377 li_X11_gatherOdds (by decide) (by decide) rfl rfl rfl (by decide) rfl rfl (Nat.le_of_ble_eq_true rfl) ⟨Nat.le_refl _, Or.inl rfl⟩ dX11_trySpans_17 ⟨rfl, hV0⟩ (fun r7 V8 hp9 => ?_)
    obtain ⟨rfl, hV10, hF11, hE12⟩ := hp9
    replace hT := hT.trans (pf_call_eq hE12)
    change pm_J X 20 [(0, (3, 0)), (1, (0, a1)), (2, (0, a2)), (3, (0, a3))] [] 118 V8
    have hF13 := pm_ff.tr (pm_ff.rf (cs := [74, 75, 76, 77, 80, 82, 85, 86, 88, 89]) (fs := [(0, 12), (0, 13), (0, 14), (0, 15), (73, 0), (73, 1), (73, 2), (73, 3), (73, 4), (73, 5), (73, 6), (73, 7), (73, 10), (73, 11), (73, 12), (73, 14), (79, 1), (81, 1), (84, 0), (87, 0)]) (V := V0)) hF11 (by decide) (by decide)
    have e14 : V8 0 13 = 84 := by rw [hF11 0 13 (by decide) (by decide)]; exact e1
    have e15 : V8 0 3 = 4 := by rw [hF11 0 3 (by decide) (by decide)]; exact e2
    have e16 : V8 4 4 = 7 := by rw [hF11 4 4 (by decide) (by decide)]; exact e3
    refine pm_aload_n hC 0 (by decide) dX11_trySpans_20 rfl ?_
    refine pm_callV (ci := 11) (as := []) (st := []) hC 0 fD_X11_keepsTried_0 lm_X11_276 li_X11_keepsTried (by decide) (by decide) rfl rfl rfl (by decide) rfl rfl (Nat.le_of_ble_eq_true rfl) ⟨Nat.le_refl _, Or.inl rfl⟩ dX11_trySpans_21 ⟨rfl, hV10⟩ (fun r17 V18 hp19 => ?_)
    obtain ⟨y20, rfl, b21, hV22, hF23, hE24⟩ := hp19
    replace hT := hT.trans (pf_call_eq hE24)
    change pm_J X 24 [(0, (3, 0)), (1, (0, a1)), (2, (0, a2)), (3, (0, a3))] [(0, y20)] 118 V18
    have hF25 := pm_ff.tr hF13 hF23 (by decide) (by decide)
    have e26 : V18 0 3 = 4 := by rw [hF23 0 3 (by decide) (by decide)]; exact e15
    have e27 : V18 4 4 = 7 := by rw [hF23 4 4 (by decide) (by decide)]; exact e16
    refine pm_if_eq (tgt := 37) hC ⟨by omega, by omega⟩ dX11_trySpans_24 (by decide) (fun c28 => ?_) (fun c28 => ?_)
    · skip
      replace hT := hT.trans (if_pos c28)
      exact pm_vret hC hR ⟨rfl, hV22, hF25, hT⟩ dX11_trySpans_37
    · skip
      replace hT := hT.trans (if_neg c28)
      refine pm_aload_n hC 0 (by decide) dX11_trySpans_27 rfl ?_
      refine pm_iload_n hC 2 dX11_trySpans_28 rfl ?_
      refine pm_putf hC 0 fl_X11_100 rfl rfl rfl (by decide) rfl trivial dX11_trySpans_29 ?_
      refine pm_aload_n hC 0 (by decide) dX11_trySpans_32 rfl ?_
      refine pm_iload_n hC 3 dX11_trySpans_33 rfl ?_
      refine pm_putf hC 0 fl_X11_104 rfl rfl rfl (by decide) rfl trivial dX11_trySpans_34 ?_
      exact pm_vret hC hR ⟨rfl, ((hV22.put 0 14 (x := a2) (lo := (-2147483648)) (hi := 2147483647) rfl ⟨by omega, by omega⟩).put 0 15 (x := a3) (lo := (-2147483648)) (hi := 2147483647) rfl ⟨by omega, by omega⟩), ((hF25.upf 0 14 a2 rfl).upf 0 15 a3 rfl), hT⟩ dX11_trySpans_37
  · skip
    replace hT := hT.trans (if_neg (by rw [e1]; decide))
    refine pm_getf (v := 87) hC 0 fl_X11_97 rfl rfl (by decide) rfl e1 dX11_trySpans_2 ?_
    refine pm_iload_n hC 1 dX11_trySpans_5 rfl ?_
    refine pm_iload_n hC 2 dX11_trySpans_6 rfl ?_
    refine pm_iload_n hC 3 dX11_trySpans_7 rfl ?_
    refine pm_aload_n hC 0 (by decide) dX11_trySpans_8 rfl ?_
    have e29 : V0 0 3 = 4 := hV0.one 0 3 (by decide) (by decide) rfl
    refine pm_getf (v := 4) hC 0 fl_X11_24 rfl rfl (by decide) rfl e29 dX11_trySpans_9 ?_
    have e30 : V0 4 4 = 7 := hV0.one 4 4 (by decide) (by decide) rfl
    refine pm_getf (v := 7) hC 4 fl_X11_192 rfl rfl (by decide) rfl e30 dX11_trySpans_12 ?_
    refine pm_iload_n hC 1 dX11_trySpans_15 rfl ?_
    obtain ⟨y31, e32⟩ : ∃ y, V0 7 (a1 : Int).toNat = y := ⟨_, rfl⟩
    replace hT := hT.trans (pf_let_eq e32)
    have b33 := hV0.get 7 (a1 : Int).toNat (lo := 0) (hi := 16) (by decide) (show _ < 10 by omega) rfl
    rw [e32] at b33
    refine pm_iaload (len := 10) (v := y31) hC 7 rfl rfl (by decide) ⟨by omega, by omega⟩ (by decide) e32 dX11_trySpans_16 ?_
    refine pm_callV (ci := 11) (as := [(3, 87), (0, a1), (0, a2), (0, a3), (0, y31)]) (st := []) hC 0 (fD_X11_gatherOdds_0_87 a1 a2 a3 y31 ⟨by omega, by omega⟩ ⟨by omega, by omega⟩ ⟨by omega, by omega⟩ ⟨by omega, by omega⟩) lm_X11_377 li_X11_gatherOdds (by decide) (by decide) rfl rfl rfl (by decide) rfl rfl (Nat.le_of_ble_eq_true rfl) ⟨Nat.le_refl _, Or.inl rfl⟩ dX11_trySpans_17 ⟨rfl, hV0⟩ (fun r34 V35 hp36 => ?_)
    obtain ⟨rfl, hV37, hF38, hE39⟩ := hp36
    replace hT := hT.trans (pf_call_eq hE39)
    change pm_J X 20 [(0, (3, 0)), (1, (0, a1)), (2, (0, a2)), (3, (0, a3))] [] 118 V35
    have hF40 := pm_ff.tr (pm_ff.rf (cs := [74, 75, 76, 77, 80, 82, 85, 86, 88, 89]) (fs := [(0, 12), (0, 13), (0, 14), (0, 15), (73, 0), (73, 1), (73, 2), (73, 3), (73, 4), (73, 5), (73, 6), (73, 7), (73, 10), (73, 11), (73, 12), (73, 14), (79, 1), (81, 1), (84, 0), (87, 0)]) (V := V0)) hF38 (by decide) (by decide)
    have e41 : V35 0 13 = 87 := by rw [hF38 0 13 (by decide) (by decide)]; exact e1
    have e42 : V35 0 3 = 4 := by rw [hF38 0 3 (by decide) (by decide)]; exact e29
    have e43 : V35 4 4 = 7 := by rw [hF38 4 4 (by decide) (by decide)]; exact e30
    refine pm_aload_n hC 0 (by decide) dX11_trySpans_20 rfl ?_
    refine pm_callV (ci := 11) (as := []) (st := []) hC 0 fD_X11_keepsTried_0 lm_X11_276 li_X11_keepsTried (by decide) (by decide) rfl rfl rfl (by decide) rfl rfl (Nat.le_of_ble_eq_true rfl) ⟨Nat.le_refl _, Or.inl rfl⟩ dX11_trySpans_21 ⟨rfl, hV37⟩ (fun r44 V45 hp46 => ?_)
    obtain ⟨y47, rfl, b48, hV49, hF50, hE51⟩ := hp46
    replace hT := hT.trans (pf_call_eq hE51)
    change pm_J X 24 [(0, (3, 0)), (1, (0, a1)), (2, (0, a2)), (3, (0, a3))] [(0, y47)] 118 V45
    have hF52 := pm_ff.tr hF40 hF50 (by decide) (by decide)
    have e53 : V45 0 3 = 4 := by rw [hF50 0 3 (by decide) (by decide)]; exact e42
    have e54 : V45 4 4 = 7 := by rw [hF50 4 4 (by decide) (by decide)]; exact e43
    refine pm_if_eq (tgt := 37) hC ⟨by omega, by omega⟩ dX11_trySpans_24 (by decide) (fun c55 => ?_) (fun c55 => ?_)
    · skip
      replace hT := hT.trans (if_pos c55)
      exact pm_vret hC hR ⟨rfl, hV49, hF52, hT⟩ dX11_trySpans_37
    · skip
      replace hT := hT.trans (if_neg c55)
      refine pm_aload_n hC 0 (by decide) dX11_trySpans_27 rfl ?_
      refine pm_iload_n hC 2 dX11_trySpans_28 rfl ?_
      refine pm_putf hC 0 fl_X11_100 rfl rfl rfl (by decide) rfl trivial dX11_trySpans_29 ?_
      refine pm_aload_n hC 0 (by decide) dX11_trySpans_32 rfl ?_
      refine pm_iload_n hC 3 dX11_trySpans_33 rfl ?_
      refine pm_putf hC 0 fl_X11_104 rfl rfl rfl (by decide) rfl trivial dX11_trySpans_34 ?_
      exact pm_vret hC hR ⟨rfl, ((hV49.put 0 14 (x := a2) (lo := (-2147483648)) (hi := 2147483647) rfl ⟨by omega, by omega⟩).put 0 15 (x := a3) (lo := (-2147483648)) (hi := 2147483647) rfl ⟨by omega, by omega⟩), ((hF52.upf 0 14 a2 rfl).upf 0 15 a3 rfl), hT⟩ dX11_trySpans_37
set_option maxHeartbeats 4000000 in
set_option maxRecDepth 100000 in
theorem fD_X11_findOwnSpans_0 (a1 : Int) (h0 : 0 ≤ a1 ∧ a1 ≤ 9) : pm_K 7 yX11_findOwnSpans cX11_findOwnSpans 5 none (fun av V => av = [(3, 0), (0, a1)] ∧ pm_ok 0 90 V) (fun _ V r V' => r = none ∧ pm_ok 0 90 V' ∧ pm_ff [74, 75, 76, 77, 80, 82, 85, 86, 88, 89] [(0, 12), (0, 13), (0, 14), (0, 15), (73, 0), (73, 1), (73, 2), (73, 3), (73, 4), (73, 5), (73, 6), (73, 7), (73, 10), (73, 11), (73, 12), (73, 14), (79, 1), (81, 1), (84, 0), (87, 0)] V V' ∧ F_X11_findOwnSpans a1 V = (0, V')) := by
  refine pm_MT.of (by decide) ⟨Nat.le_refl _, by decide⟩ (fun av V h => by rw [h.1]; exact (by decide : pm_words [(3, 0), (0, 0)] ≤ 5)) ?_
  rintro X av V0 hC - hR ⟨rfl, hV0⟩
  change pm_J X 0 [(0, (3, 0)), (1, (0, a1))] [] 118 V0
  have hT := F_X11_findOwnSpans_eq a1 V0
  refine pm_aload_n hC 0 (by decide) dX11_findOwnSpans_0 rfl ?_
  refine pm_iconst (v := 0) hC dX11_findOwnSpans_1 ?_
  refine pm_putf hC 0 fl_X11_100 rfl rfl rfl (by decide) rfl trivial dX11_findOwnSpans_2 ?_
  refine pm_aload_n hC 0 (by decide) dX11_findOwnSpans_5 rfl ?_
  refine pm_iconst (v := 0) hC dX11_findOwnSpans_6 ?_
  refine pm_putf hC 0 fl_X11_104 rfl rfl rfl (by decide) rfl trivial dX11_findOwnSpans_7 ?_
  refine pm_aload_n hC 0 (by decide) dX11_findOwnSpans_10 rfl ?_
  refine pm_aload_n hC 0 (by decide) dX11_findOwnSpans_11 rfl ?_
  rcases hV0.get2 0 12 (lo := 84) (hi := 87) (by decide) (by decide) rfl with e1 | e1
  · skip
    replace hT := hT.trans (if_pos e1)
    refine pm_getf (v := 84) hC 0 fl_X11_93 rfl rfl (by decide) rfl e1 dX11_findOwnSpans_12 ?_
    refine pm_iload_n hC 1 dX11_findOwnSpans_15 rfl ?_
    refine pm_iconst (v := 0) hC dX11_findOwnSpans_16 ?_
    refine pm_iconst (v := 0) hC dX11_findOwnSpans_17 ?_
    refine pm_aload_n hC 0 (by decide) dX11_findOwnSpans_18 rfl ?_
    have e2 : V0 0 3 = 4 := hV0.one 0 3 (by decide) (by decide) rfl
    refine pm_getf (v := 4) hC 0 fl_X11_24 rfl rfl (by decide) rfl e2 dX11_findOwnSpans_19 ?_
    have e3 : V0 4 4 = 7 := hV0.one 4 4 (by decide) (by decide) rfl
    refine pm_getf (v := 7) hC 4 fl_X11_192 rfl rfl (by decide) rfl e3 dX11_findOwnSpans_22 ?_
    refine pm_iload_n hC 1 dX11_findOwnSpans_25 rfl ?_
    obtain ⟨y4, e5⟩ : ∃ y, V0 7 (a1 : Int).toNat = y := ⟨_, rfl⟩
    replace hT := hT.trans (pf_let_eq e5)
    have b6 := hV0.get 7 (a1 : Int).toNat (lo := 0) (hi := 16) (by decide) (show _ < 10 by omega) rfl
    rw [e5] at b6
    refine pm_iaload (len := 10) (v := y4) hC 7 rfl rfl (by decide) ⟨by omega, by omega⟩ (by decide) e5 dX11_findOwnSpans_26 ?_
    refine pm_callV (ci := 11) (as := [(3, 84), (0, a1), (0, 0), (0, 0), (0, y4)]) (st := []) hC 0 (fD_X11_gatherOdds_0_84 a1 0 0 y4 ⟨by omega, by omega⟩ ⟨by decide, by decide⟩ ⟨by decide, by decide⟩ ⟨by omega, by omega⟩) lm_X11_377 li_X11_gatherOdds (by decide) (by decide) rfl rfl rfl (by decide) rfl rfl (Nat.le_of_ble_eq_true rfl) ⟨Nat.le_refl _, Or.inl rfl⟩ dX11_findOwnSpans_27 ⟨rfl, ((hV0.put 0 14 (x := 0) (lo := (-2147483648)) (hi := 2147483647) rfl ⟨by decide, by decide⟩).put 0 15 (x := 0) (lo := (-2147483648)) (hi := 2147483647) rfl ⟨by decide, by decide⟩)⟩ (fun r7 V8 hp9 => ?_)
    obtain ⟨rfl, hV10, hF11, hE12⟩ := hp9
    replace hT := hT.trans (pf_call_eq hE12)
    change pm_J X 30 [(0, (3, 0)), (1, (0, a1))] [] 118 V8
    have hF13 := pm_ff.tr (((pm_ff.rf (cs := [74, 75, 76, 77, 80, 82, 85, 86, 88, 89]) (fs := [(0, 12), (0, 13), (0, 14), (0, 15), (73, 0), (73, 1), (73, 2), (73, 3), (73, 4), (73, 5), (73, 6), (73, 7), (73, 10), (73, 11), (73, 12), (73, 14), (79, 1), (81, 1), (84, 0), (87, 0)]) (V := V0)).upf 0 14 0 rfl).upf 0 15 0 rfl) hF11 (by decide) (by decide)
    have e14 : V8 0 12 = 84 := by rw [hF11 0 12 (by decide) (by decide)]; exact e1
    have e15 : V8 0 3 = 4 := by rw [hF11 0 3 (by decide) (by decide)]; exact e2
    have e16 : V8 4 4 = 7 := by rw [hF11 4 4 (by decide) (by decide)]; exact e3
    have e17 : V8 0 14 = 0 := by rw [hF11 0 14 (by decide) (by decide)]; rfl
    have e18 : V8 0 15 = 0 := by rw [hF11 0 15 (by decide) (by decide)]; rfl
    refine pm_iconst (v := 1) hC dX11_findOwnSpans_30 ?_
    refine pm_istore_n (lv' := [(2, (0, 1)), (0, (3, 0)), (1, (0, a1))]) hC dX11_findOwnSpans_31 (by decide) rfl ?_
    obtain ⟨B26, hB27, hT⟩ := pf_loop hT
    have L29 : ∀ (N31 : Nat) (x19 : Int) (V21 : pm_M), (1 ≤ x19 ∧ x19 ≤ 60) → pm_ok 0 90 V21 → pm_ff [74, 75, 76, 77, 80, 82, 85, 86, 88, 89] [(0, 12), (0, 13), (0, 14), (0, 15), (73, 0), (73, 1), (73, 2), (73, 3), (73, 4), (73, 5), (73, 6), (73, 7), (73, 10), (73, 11), (73, 12), (73, 14), (79, 1), (81, 1), (84, 0), (87, 0)] V0 V21 → V21 0 3 = 4 → V21 4 4 = 7 → F_X11_findOwnSpans a1 V0 = pf_val ((0 : Int), V0) B26 (x19, V21) → (Int.toNat (60 - x19)) = N31 → pm_J X 32 [(0, (3, 0)), (1, (0, a1)), (2, (0, x19))] [] 118 V21 := by
      intro N31
      induction N31 using Nat.strongRecOn with
      | _ N31 ih32 =>
      intro x19 V21 b20 hV22 hF23 e24 e25 hT hm30
      have hb28 := congrFun hB27 (x19, V21)
      refine pm_iload_n hC 2 dX11_findOwnSpans_32 rfl ?_
      refine pm_bipush (v := 24) hC dX11_findOwnSpans_33 (by decide) ?_
      refine pm_icmp_gt (tgt := 108) hC ⟨by omega, by omega⟩ ⟨by decide, by decide⟩ dX11_findOwnSpans_35 (by decide) (fun c33 => ?_) (fun c33 => ?_)
      · skip
        replace hb28 := hb28.trans (if_pos c33)
        have hT := hT.trans (pf_val_inr hb28)
        exact pm_vret hC hR ⟨rfl, hV22, hF23, hT⟩ dX11_findOwnSpans_108
      · skip
        replace hb28 := hb28.trans (if_neg (Int.not_lt.mpr c33))
        refine pm_bipush (v := (-12)) hC dX11_findOwnSpans_38 (by decide) ?_
        refine pm_istore_n (lv' := [(3, (0, (-12))), (0, (3, 0)), (1, (0, a1)), (2, (0, x19))]) hC dX11_findOwnSpans_40 (by decide) rfl ?_
        obtain ⟨B41, hB42, hb28⟩ := pf_loop hb28
        have L44 : ∀ (N46 : Nat) (x34 : Int) (V36 : pm_M), ((-12) ≤ x34 ∧ x34 ≤ 16) → pm_ok 0 90 V36 → pm_ff [74, 75, 76, 77, 80, 82, 85, 86, 88, 89] [(0, 12), (0, 13), (0, 14), (0, 15), (73, 0), (73, 1), (73, 2), (73, 3), (73, 4), (73, 5), (73, 6), (73, 7), (73, 10), (73, 11), (73, 12), (73, 14), (79, 1), (81, 1), (84, 0), (87, 0)] V0 V36 → V36 0 3 = 4 → V36 4 4 = 7 → B26 (x19, V21) = pf_val (.inr ((0 : Int), V0)) B41 (x34, V36) → (Int.toNat (16 - x34)) = N46 → pm_J X 41 [(0, (3, 0)), (1, (0, a1)), (2, (0, x19)), (3, (0, x34))] [] 118 V36 := by
          intro N46
          induction N46 using Nat.strongRecOn with
          | _ N46 ih47 =>
          intro x34 V36 b35 hV37 hF38 e39 e40 hb28 hm45
          have hb43 := congrFun hB42 (x34, V36)
          refine pm_iload_n hC 3 dX11_findOwnSpans_41 rfl ?_
          refine pm_bipush (v := 12) hC dX11_findOwnSpans_42 (by decide) ?_
          refine pm_icmp_gt (tgt := 102) hC ⟨by omega, by omega⟩ ⟨by decide, by decide⟩ dX11_findOwnSpans_44 (by decide) (fun c48 => ?_) (fun c48 => ?_)
          · skip
            replace hb43 := hb43.trans (if_pos c48)
            obtain ⟨x49, ei50⟩ : ∃ y : Int, x19 + 1 = y := ⟨_, rfl⟩
            replace hb43 := hb43.trans (pf_let_eq ei50)
            refine pm_iinc (y := x49) (lv' := [(2, (0, x49)), (0, (3, 0)), (1, (0, a1)), (3, (0, x34))]) hC 2 dX11_findOwnSpans_102 (by decide) rfl ei50 rfl ?_
            refine pm_goto (tgt := 32) hC dX11_findOwnSpans_105 (by decide) ?_
            have hb28 := hb28.trans (pf_val_inr hb43)
            refine pm_lvsub [1, 2, 0] (lv' := [(0, (3, 0)), (1, (0, a1)), (2, (0, x49))]) rfl ?_
            exact ih32 _ (by omega) x49 V36 ⟨by omega, by omega⟩ hV37 hF38 e39 e40 (hT.trans (pf_val_inl hb28)) rfl
          · skip
            replace hb43 := hb43.trans (if_neg (Int.not_lt.mpr c48))
            refine pm_iload_n hC 2 dX11_findOwnSpans_47 rfl ?_
            refine pm_iload_n hC 3 dX11_findOwnSpans_48 rfl ?_
            refine pm_mabsT hC 4214 4015 1018 4016 ⟨by omega, by omega⟩ (by decide) wL_X11_366 wS_mabs wI_math wC_mabs (Nat.le_of_ble_eq_true rfl) dX11_findOwnSpans_49 (fun y51 he53 b52 => ?_)
            have b52 := And.intro b52.1.1 (And.intro b52.1.2 b52.2)
            replace hb43 := hb43.trans (pf_let_eq he53)
            refine pm_isub hC dX11_findOwnSpans_52 ?_
            refine pm_istore (lv' := [(4, (0, (x19 - y51))), (0, (3, 0)), (1, (0, a1)), (2, (0, x19)), (3, (0, x34))]) hC dX11_findOwnSpans_53 (by decide) rfl ?_
            refine pm_iload hC 0 dX11_findOwnSpans_55 rfl ?_
            refine pm_if_lt (tgt := 76) hC ⟨by omega, by omega⟩ dX11_findOwnSpans_57 (by decide) (fun c54 => ?_) (fun c54 => ?_)
            · skip
              replace hb43 := hb43.trans (if_pos c54)
              refine pm_iload hC 0 dX11_findOwnSpans_76 rfl ?_
              refine pm_if_le (tgt := 96) hC ⟨by omega, by omega⟩ dX11_findOwnSpans_78 (by decide) (fun c55 => ?_) (fun c55 => ?_)
              · skip
                replace hb43 := hb43.trans (if_pos c55)
                obtain ⟨x56, ei57⟩ : ∃ y : Int, x34 + 1 = y := ⟨_, rfl⟩
                replace hb43 := hb43.trans (pf_let_eq ei57)
                refine pm_iinc (y := x56) (lv' := [(3, (0, x56)), (4, (0, (x19 - y51))), (0, (3, 0)), (1, (0, a1)), (2, (0, x19))]) hC 4 dX11_findOwnSpans_96 (by decide) rfl ei57 rfl ?_
                refine pm_goto (tgt := 41) hC dX11_findOwnSpans_99 (by decide) ?_
                refine pm_lvsub [2, 3, 4, 0] (lv' := [(0, (3, 0)), (1, (0, a1)), (2, (0, x19)), (3, (0, x56))]) rfl ?_
                exact ih47 _ (by omega) x56 V36 ⟨by omega, by omega⟩ hV37 hF38 e39 e40 (hb28.trans (pf_val_inl hb43)) rfl
              · skip
                replace hb43 := hb43.trans (if_neg (Int.not_le.mpr c55))
                exfalso; omega
            · skip
              replace hb43 := hb43.trans (if_neg (Int.not_lt.mpr c54))
              refine pm_iload hC 0 dX11_findOwnSpans_60 rfl ?_
              refine pm_bipush (v := 12) hC dX11_findOwnSpans_62 (by decide) ?_
              refine pm_icmp_gt (tgt := 76) hC ⟨by omega, by omega⟩ ⟨by decide, by decide⟩ dX11_findOwnSpans_64 (by decide) (fun c58 => ?_) (fun c58 => ?_)
              · skip
                replace hb43 := hb43.trans (if_pos c58)
                refine pm_iload hC 0 dX11_findOwnSpans_76 rfl ?_
                refine pm_if_le (tgt := 96) hC ⟨by omega, by omega⟩ dX11_findOwnSpans_78 (by decide) (fun c59 => ?_) (fun c59 => ?_)
                · skip
                  replace hb43 := hb43.trans (if_pos c59)
                  exfalso; omega
                · skip
                  replace hb43 := hb43.trans (if_neg (Int.not_le.mpr c59))
                  refine pm_iload hC 0 dX11_findOwnSpans_81 rfl ?_
                  refine pm_bipush (v := 12) hC dX11_findOwnSpans_83 (by decide) ?_
                  refine pm_icmp_gt (tgt := 96) hC ⟨by omega, by omega⟩ ⟨by decide, by decide⟩ dX11_findOwnSpans_85 (by decide) (fun c60 => ?_) (fun c60 => ?_)
                  · skip
                    replace hb43 := hb43.trans (if_pos c60)
                    obtain ⟨x61, ei62⟩ : ∃ y : Int, x34 + 1 = y := ⟨_, rfl⟩
                    replace hb43 := hb43.trans (pf_let_eq ei62)
                    refine pm_iinc (y := x61) (lv' := [(3, (0, x61)), (4, (0, (x19 - y51))), (0, (3, 0)), (1, (0, a1)), (2, (0, x19))]) hC 4 dX11_findOwnSpans_96 (by decide) rfl ei62 rfl ?_
                    refine pm_goto (tgt := 41) hC dX11_findOwnSpans_99 (by decide) ?_
                    refine pm_lvsub [2, 3, 4, 0] (lv' := [(0, (3, 0)), (1, (0, a1)), (2, (0, x19)), (3, (0, x61))]) rfl ?_
                    exact ih47 _ (by omega) x61 V36 ⟨by omega, by omega⟩ hV37 hF38 e39 e40 (hb28.trans (pf_val_inl hb43)) rfl
                  · skip
                    replace hb43 := hb43.trans (if_neg (Int.not_lt.mpr c60))
                    exfalso; omega
              · skip
                replace hb43 := hb43.trans (if_neg (Int.not_lt.mpr c58))
                refine pm_aload_n hC 1 (by decide) dX11_findOwnSpans_67 rfl ?_
                refine pm_iload_n hC 2 dX11_findOwnSpans_68 rfl ?_
                refine pm_iload_n hC 4 dX11_findOwnSpans_69 rfl ?_
                refine pm_iload hC 0 dX11_findOwnSpans_70 rfl ?_
                refine pm_ineg hC dX11_findOwnSpans_72 ?_
                refine pm_callV (ci := 11) (as := [(0, a1), (0, x34), (0, (-(x19 - y51)))]) (st := []) hC 0 (fD_X11_trySpans_0 a1 x34 (-(x19 - y51)) ⟨by omega, by omega⟩ ⟨by omega, by omega⟩ ⟨by omega, by omega⟩) lm_X11_381 li_X11_trySpans (by decide) (by decide) rfl rfl rfl (by decide) rfl rfl (Nat.le_of_ble_eq_true rfl) ⟨Nat.le_refl _, Or.inl rfl⟩ dX11_findOwnSpans_73 ⟨rfl, hV37⟩ (fun r63 V64 hp65 => ?_)
                obtain ⟨rfl, hV66, hF67, hE68⟩ := hp65
                replace hb43 := hb43.trans (pf_call_eq hE68)
                change pm_J X 76 [(4, (0, (x19 - y51))), (0, (3, 0)), (1, (0, a1)), (2, (0, x19)), (3, (0, x34))] [] 118 V64
                have hF69 := pm_ff.tr hF38 hF67 (by decide) (by decide)
                have e70 : V64 0 3 = 4 := by rw [hF67 0 3 (by decide) (by decide)]; exact e39
                have e71 : V64 4 4 = 7 := by rw [hF67 4 4 (by decide) (by decide)]; exact e40
                refine pm_iload hC 0 dX11_findOwnSpans_76 rfl ?_
                refine pm_if_le (tgt := 96) hC ⟨by omega, by omega⟩ dX11_findOwnSpans_78 (by decide) (fun c72 => ?_) (fun c72 => ?_)
                · skip
                  replace hb43 := hb43.trans (if_pos c72)
                  obtain ⟨x73, ei74⟩ : ∃ y : Int, x34 + 1 = y := ⟨_, rfl⟩
                  replace hb43 := hb43.trans (pf_let_eq ei74)
                  refine pm_iinc (y := x73) (lv' := [(3, (0, x73)), (4, (0, (x19 - y51))), (0, (3, 0)), (1, (0, a1)), (2, (0, x19))]) hC 4 dX11_findOwnSpans_96 (by decide) rfl ei74 rfl ?_
                  refine pm_goto (tgt := 41) hC dX11_findOwnSpans_99 (by decide) ?_
                  refine pm_lvsub [2, 3, 4, 0] (lv' := [(0, (3, 0)), (1, (0, a1)), (2, (0, x19)), (3, (0, x73))]) rfl ?_
                  exact ih47 _ (by omega) x73 V64 ⟨by omega, by omega⟩ hV66 hF69 e70 e71 (hb28.trans (pf_val_inl hb43)) rfl
                · skip
                  replace hb43 := hb43.trans (if_neg (Int.not_le.mpr c72))
                  refine pm_iload hC 0 dX11_findOwnSpans_81 rfl ?_
                  refine pm_bipush (v := 12) hC dX11_findOwnSpans_83 (by decide) ?_
                  refine pm_icmp_gt (tgt := 96) hC ⟨by omega, by omega⟩ ⟨by decide, by decide⟩ dX11_findOwnSpans_85 (by decide) (fun c75 => ?_) (fun c75 => ?_)
                  · skip
                    replace hb43 := hb43.trans (if_pos c75)
                    exfalso; omega
                  · skip
                    replace hb43 := hb43.trans (if_neg (Int.not_lt.mpr c75))
                    refine pm_aload_n hC 1 (by decide) dX11_findOwnSpans_88 rfl ?_
                    refine pm_iload_n hC 2 dX11_findOwnSpans_89 rfl ?_
                    refine pm_iload_n hC 4 dX11_findOwnSpans_90 rfl ?_
                    refine pm_iload hC 0 dX11_findOwnSpans_91 rfl ?_
                    refine pm_callV (ci := 11) (as := [(0, a1), (0, x34), (0, (x19 - y51))]) (st := []) hC 0 (fD_X11_trySpans_0 a1 x34 (x19 - y51) ⟨by omega, by omega⟩ ⟨by omega, by omega⟩ ⟨by omega, by omega⟩) lm_X11_381 li_X11_trySpans (by decide) (by decide) rfl rfl rfl (by decide) rfl rfl (Nat.le_of_ble_eq_true rfl) ⟨Nat.le_refl _, Or.inl rfl⟩ dX11_findOwnSpans_93 ⟨rfl, hV66⟩ (fun r76 V77 hp78 => ?_)
                    obtain ⟨rfl, hV79, hF80, hE81⟩ := hp78
                    replace hb43 := hb43.trans (pf_call_eq hE81)
                    change pm_J X 96 [(4, (0, (x19 - y51))), (0, (3, 0)), (1, (0, a1)), (2, (0, x19)), (3, (0, x34))] [] 118 V77
                    have hF82 := pm_ff.tr hF69 hF80 (by decide) (by decide)
                    have e83 : V77 0 3 = 4 := by rw [hF80 0 3 (by decide) (by decide)]; exact e70
                    have e84 : V77 4 4 = 7 := by rw [hF80 4 4 (by decide) (by decide)]; exact e71
                    obtain ⟨x85, ei86⟩ : ∃ y : Int, x34 + 1 = y := ⟨_, rfl⟩
                    replace hb43 := hb43.trans (pf_let_eq ei86)
                    refine pm_iinc (y := x85) (lv' := [(3, (0, x85)), (4, (0, (x19 - y51))), (0, (3, 0)), (1, (0, a1)), (2, (0, x19))]) hC 4 dX11_findOwnSpans_96 (by decide) rfl ei86 rfl ?_
                    refine pm_goto (tgt := 41) hC dX11_findOwnSpans_99 (by decide) ?_
                    refine pm_lvsub [2, 3, 4, 0] (lv' := [(0, (3, 0)), (1, (0, a1)), (2, (0, x19)), (3, (0, x85))]) rfl ?_
                    exact ih47 _ (by omega) x85 V77 ⟨by omega, by omega⟩ hV79 hF82 e83 e84 (hb28.trans (pf_val_inl hb43)) rfl
        refine pm_lvsub [1, 2, 3, 0] (lv' := [(0, (3, 0)), (1, (0, a1)), (2, (0, x19)), (3, (0, (-12)))]) rfl ?_
        exact L44 _ (-12) V21 ⟨by decide, by decide⟩ hV22 hF23 e24 e25 hb28 rfl
    refine pm_lvsub [1, 2, 0] (lv' := [(0, (3, 0)), (1, (0, a1)), (2, (0, 1))]) rfl ?_
    exact L29 _ 1 V8 ⟨by decide, by decide⟩ hV10 hF13 e15 e16 hT rfl
  · skip
    replace hT := hT.trans (if_neg (by rw [e1]; decide))
    refine pm_getf (v := 87) hC 0 fl_X11_93 rfl rfl (by decide) rfl e1 dX11_findOwnSpans_12 ?_
    refine pm_iload_n hC 1 dX11_findOwnSpans_15 rfl ?_
    refine pm_iconst (v := 0) hC dX11_findOwnSpans_16 ?_
    refine pm_iconst (v := 0) hC dX11_findOwnSpans_17 ?_
    refine pm_aload_n hC 0 (by decide) dX11_findOwnSpans_18 rfl ?_
    have e87 : V0 0 3 = 4 := hV0.one 0 3 (by decide) (by decide) rfl
    refine pm_getf (v := 4) hC 0 fl_X11_24 rfl rfl (by decide) rfl e87 dX11_findOwnSpans_19 ?_
    have e88 : V0 4 4 = 7 := hV0.one 4 4 (by decide) (by decide) rfl
    refine pm_getf (v := 7) hC 4 fl_X11_192 rfl rfl (by decide) rfl e88 dX11_findOwnSpans_22 ?_
    refine pm_iload_n hC 1 dX11_findOwnSpans_25 rfl ?_
    obtain ⟨y89, e90⟩ : ∃ y, V0 7 (a1 : Int).toNat = y := ⟨_, rfl⟩
    replace hT := hT.trans (pf_let_eq e90)
    have b91 := hV0.get 7 (a1 : Int).toNat (lo := 0) (hi := 16) (by decide) (show _ < 10 by omega) rfl
    rw [e90] at b91
    refine pm_iaload (len := 10) (v := y89) hC 7 rfl rfl (by decide) ⟨by omega, by omega⟩ (by decide) e90 dX11_findOwnSpans_26 ?_
    refine pm_callV (ci := 11) (as := [(3, 87), (0, a1), (0, 0), (0, 0), (0, y89)]) (st := []) hC 0 (fD_X11_gatherOdds_0_87 a1 0 0 y89 ⟨by omega, by omega⟩ ⟨by decide, by decide⟩ ⟨by decide, by decide⟩ ⟨by omega, by omega⟩) lm_X11_377 li_X11_gatherOdds (by decide) (by decide) rfl rfl rfl (by decide) rfl rfl (Nat.le_of_ble_eq_true rfl) ⟨Nat.le_refl _, Or.inl rfl⟩ dX11_findOwnSpans_27 ⟨rfl, ((hV0.put 0 14 (x := 0) (lo := (-2147483648)) (hi := 2147483647) rfl ⟨by decide, by decide⟩).put 0 15 (x := 0) (lo := (-2147483648)) (hi := 2147483647) rfl ⟨by decide, by decide⟩)⟩ (fun r92 V93 hp94 => ?_)
    obtain ⟨rfl, hV95, hF96, hE97⟩ := hp94
    replace hT := hT.trans (pf_call_eq hE97)
    change pm_J X 30 [(0, (3, 0)), (1, (0, a1))] [] 118 V93
    have hF98 := pm_ff.tr (((pm_ff.rf (cs := [74, 75, 76, 77, 80, 82, 85, 86, 88, 89]) (fs := [(0, 12), (0, 13), (0, 14), (0, 15), (73, 0), (73, 1), (73, 2), (73, 3), (73, 4), (73, 5), (73, 6), (73, 7), (73, 10), (73, 11), (73, 12), (73, 14), (79, 1), (81, 1), (84, 0), (87, 0)]) (V := V0)).upf 0 14 0 rfl).upf 0 15 0 rfl) hF96 (by decide) (by decide)
    have e99 : V93 0 12 = 87 := by rw [hF96 0 12 (by decide) (by decide)]; exact e1
    have e100 : V93 0 3 = 4 := by rw [hF96 0 3 (by decide) (by decide)]; exact e87
    have e101 : V93 4 4 = 7 := by rw [hF96 4 4 (by decide) (by decide)]; exact e88
    have e102 : V93 0 14 = 0 := by rw [hF96 0 14 (by decide) (by decide)]; rfl
    have e103 : V93 0 15 = 0 := by rw [hF96 0 15 (by decide) (by decide)]; rfl
    refine pm_iconst (v := 1) hC dX11_findOwnSpans_30 ?_
    refine pm_istore_n (lv' := [(2, (0, 1)), (0, (3, 0)), (1, (0, a1))]) hC dX11_findOwnSpans_31 (by decide) rfl ?_
    obtain ⟨B111, hB112, hT⟩ := pf_loop hT
    have L114 : ∀ (N116 : Nat) (x104 : Int) (V106 : pm_M), (1 ≤ x104 ∧ x104 ≤ 60) → pm_ok 0 90 V106 → pm_ff [74, 75, 76, 77, 80, 82, 85, 86, 88, 89] [(0, 12), (0, 13), (0, 14), (0, 15), (73, 0), (73, 1), (73, 2), (73, 3), (73, 4), (73, 5), (73, 6), (73, 7), (73, 10), (73, 11), (73, 12), (73, 14), (79, 1), (81, 1), (84, 0), (87, 0)] V0 V106 → V106 0 3 = 4 → V106 4 4 = 7 → F_X11_findOwnSpans a1 V0 = pf_val ((0 : Int), V0) B111 (x104, V106) → (Int.toNat (60 - x104)) = N116 → pm_J X 32 [(0, (3, 0)), (1, (0, a1)), (2, (0, x104))] [] 118 V106 := by
      intro N116
      induction N116 using Nat.strongRecOn with
      | _ N116 ih117 =>
      intro x104 V106 b105 hV107 hF108 e109 e110 hT hm115
      have hb113 := congrFun hB112 (x104, V106)
      refine pm_iload_n hC 2 dX11_findOwnSpans_32 rfl ?_
      refine pm_bipush (v := 24) hC dX11_findOwnSpans_33 (by decide) ?_
      refine pm_icmp_gt (tgt := 108) hC ⟨by omega, by omega⟩ ⟨by decide, by decide⟩ dX11_findOwnSpans_35 (by decide) (fun c118 => ?_) (fun c118 => ?_)
      · skip
        replace hb113 := hb113.trans (if_pos c118)
        have hT := hT.trans (pf_val_inr hb113)
        exact pm_vret hC hR ⟨rfl, hV107, hF108, hT⟩ dX11_findOwnSpans_108
      · skip
        replace hb113 := hb113.trans (if_neg (Int.not_lt.mpr c118))
        refine pm_bipush (v := (-12)) hC dX11_findOwnSpans_38 (by decide) ?_
        refine pm_istore_n (lv' := [(3, (0, (-12))), (0, (3, 0)), (1, (0, a1)), (2, (0, x104))]) hC dX11_findOwnSpans_40 (by decide) rfl ?_
        obtain ⟨B126, hB127, hb113⟩ := pf_loop hb113
        have L129 : ∀ (N131 : Nat) (x119 : Int) (V121 : pm_M), ((-12) ≤ x119 ∧ x119 ≤ 16) → pm_ok 0 90 V121 → pm_ff [74, 75, 76, 77, 80, 82, 85, 86, 88, 89] [(0, 12), (0, 13), (0, 14), (0, 15), (73, 0), (73, 1), (73, 2), (73, 3), (73, 4), (73, 5), (73, 6), (73, 7), (73, 10), (73, 11), (73, 12), (73, 14), (79, 1), (81, 1), (84, 0), (87, 0)] V0 V121 → V121 0 3 = 4 → V121 4 4 = 7 → B111 (x104, V106) = pf_val (.inr ((0 : Int), V0)) B126 (x119, V121) → (Int.toNat (16 - x119)) = N131 → pm_J X 41 [(0, (3, 0)), (1, (0, a1)), (2, (0, x104)), (3, (0, x119))] [] 118 V121 := by
          intro N131
          induction N131 using Nat.strongRecOn with
          | _ N131 ih132 =>
          intro x119 V121 b120 hV122 hF123 e124 e125 hb113 hm130
          have hb128 := congrFun hB127 (x119, V121)
          refine pm_iload_n hC 3 dX11_findOwnSpans_41 rfl ?_
          refine pm_bipush (v := 12) hC dX11_findOwnSpans_42 (by decide) ?_
          refine pm_icmp_gt (tgt := 102) hC ⟨by omega, by omega⟩ ⟨by decide, by decide⟩ dX11_findOwnSpans_44 (by decide) (fun c133 => ?_) (fun c133 => ?_)
          · skip
            replace hb128 := hb128.trans (if_pos c133)
            obtain ⟨x134, ei135⟩ : ∃ y : Int, x104 + 1 = y := ⟨_, rfl⟩
            replace hb128 := hb128.trans (pf_let_eq ei135)
            refine pm_iinc (y := x134) (lv' := [(2, (0, x134)), (0, (3, 0)), (1, (0, a1)), (3, (0, x119))]) hC 2 dX11_findOwnSpans_102 (by decide) rfl ei135 rfl ?_
            refine pm_goto (tgt := 32) hC dX11_findOwnSpans_105 (by decide) ?_
            have hb113 := hb113.trans (pf_val_inr hb128)
            refine pm_lvsub [1, 2, 0] (lv' := [(0, (3, 0)), (1, (0, a1)), (2, (0, x134))]) rfl ?_
            exact ih117 _ (by omega) x134 V121 ⟨by omega, by omega⟩ hV122 hF123 e124 e125 (hT.trans (pf_val_inl hb113)) rfl
          · skip
            replace hb128 := hb128.trans (if_neg (Int.not_lt.mpr c133))
            refine pm_iload_n hC 2 dX11_findOwnSpans_47 rfl ?_
            refine pm_iload_n hC 3 dX11_findOwnSpans_48 rfl ?_
            refine pm_mabsT hC 4214 4015 1018 4016 ⟨by omega, by omega⟩ (by decide) wL_X11_366 wS_mabs wI_math wC_mabs (Nat.le_of_ble_eq_true rfl) dX11_findOwnSpans_49 (fun y136 he138 b137 => ?_)
            have b137 := And.intro b137.1.1 (And.intro b137.1.2 b137.2)
            replace hb128 := hb128.trans (pf_let_eq he138)
            refine pm_isub hC dX11_findOwnSpans_52 ?_
            refine pm_istore (lv' := [(4, (0, (x104 - y136))), (0, (3, 0)), (1, (0, a1)), (2, (0, x104)), (3, (0, x119))]) hC dX11_findOwnSpans_53 (by decide) rfl ?_
            refine pm_iload hC 0 dX11_findOwnSpans_55 rfl ?_
            refine pm_if_lt (tgt := 76) hC ⟨by omega, by omega⟩ dX11_findOwnSpans_57 (by decide) (fun c139 => ?_) (fun c139 => ?_)
            · skip
              replace hb128 := hb128.trans (if_pos c139)
              refine pm_iload hC 0 dX11_findOwnSpans_76 rfl ?_
              refine pm_if_le (tgt := 96) hC ⟨by omega, by omega⟩ dX11_findOwnSpans_78 (by decide) (fun c140 => ?_) (fun c140 => ?_)
              · skip
                replace hb128 := hb128.trans (if_pos c140)
                obtain ⟨x141, ei142⟩ : ∃ y : Int, x119 + 1 = y := ⟨_, rfl⟩
                replace hb128 := hb128.trans (pf_let_eq ei142)
                refine pm_iinc (y := x141) (lv' := [(3, (0, x141)), (4, (0, (x104 - y136))), (0, (3, 0)), (1, (0, a1)), (2, (0, x104))]) hC 4 dX11_findOwnSpans_96 (by decide) rfl ei142 rfl ?_
                refine pm_goto (tgt := 41) hC dX11_findOwnSpans_99 (by decide) ?_
                refine pm_lvsub [2, 3, 4, 0] (lv' := [(0, (3, 0)), (1, (0, a1)), (2, (0, x104)), (3, (0, x141))]) rfl ?_
                exact ih132 _ (by omega) x141 V121 ⟨by omega, by omega⟩ hV122 hF123 e124 e125 (hb113.trans (pf_val_inl hb128)) rfl
              · skip
                replace hb128 := hb128.trans (if_neg (Int.not_le.mpr c140))
                exfalso; omega
            · skip
              replace hb128 := hb128.trans (if_neg (Int.not_lt.mpr c139))
              refine pm_iload hC 0 dX11_findOwnSpans_60 rfl ?_
              refine pm_bipush (v := 12) hC dX11_findOwnSpans_62 (by decide) ?_
              refine pm_icmp_gt (tgt := 76) hC ⟨by omega, by omega⟩ ⟨by decide, by decide⟩ dX11_findOwnSpans_64 (by decide) (fun c143 => ?_) (fun c143 => ?_)
              · skip
                replace hb128 := hb128.trans (if_pos c143)
                refine pm_iload hC 0 dX11_findOwnSpans_76 rfl ?_
                refine pm_if_le (tgt := 96) hC ⟨by omega, by omega⟩ dX11_findOwnSpans_78 (by decide) (fun c144 => ?_) (fun c144 => ?_)
                · skip
                  replace hb128 := hb128.trans (if_pos c144)
                  exfalso; omega
                · skip
                  replace hb128 := hb128.trans (if_neg (Int.not_le.mpr c144))
                  refine pm_iload hC 0 dX11_findOwnSpans_81 rfl ?_
                  refine pm_bipush (v := 12) hC dX11_findOwnSpans_83 (by decide) ?_
                  refine pm_icmp_gt (tgt := 96) hC ⟨by omega, by omega⟩ ⟨by decide, by decide⟩ dX11_findOwnSpans_85 (by decide) (fun c145 => ?_) (fun c145 => ?_)
                  · skip
                    replace hb128 := hb128.trans (if_pos c145)
                    obtain ⟨x146, ei147⟩ : ∃ y : Int, x119 + 1 = y := ⟨_, rfl⟩
                    replace hb128 := hb128.trans (pf_let_eq ei147)
                    refine pm_iinc (y := x146) (lv' := [(3, (0, x146)), (4, (0, (x104 - y136))), (0, (3, 0)), (1, (0, a1)), (2, (0, x104))]) hC 4 dX11_findOwnSpans_96 (by decide) rfl ei147 rfl ?_
                    refine pm_goto (tgt := 41) hC dX11_findOwnSpans_99 (by decide) ?_
                    refine pm_lvsub [2, 3, 4, 0] (lv' := [(0, (3, 0)), (1, (0, a1)), (2, (0, x104)), (3, (0, x146))]) rfl ?_
                    exact ih132 _ (by omega) x146 V121 ⟨by omega, by omega⟩ hV122 hF123 e124 e125 (hb113.trans (pf_val_inl hb128)) rfl
                  · skip
                    replace hb128 := hb128.trans (if_neg (Int.not_lt.mpr c145))
                    exfalso; omega
              · skip
                replace hb128 := hb128.trans (if_neg (Int.not_lt.mpr c143))
                refine pm_aload_n hC 1 (by decide) dX11_findOwnSpans_67 rfl ?_
                refine pm_iload_n hC 2 dX11_findOwnSpans_68 rfl ?_
                refine pm_iload_n hC 4 dX11_findOwnSpans_69 rfl ?_
                refine pm_iload hC 0 dX11_findOwnSpans_70 rfl ?_
                refine pm_ineg hC dX11_findOwnSpans_72 ?_
                refine pm_callV (ci := 11) (as := [(0, a1), (0, x119), (0, (-(x104 - y136)))]) (st := []) hC 0 (fD_X11_trySpans_0 a1 x119 (-(x104 - y136)) ⟨by omega, by omega⟩ ⟨by omega, by omega⟩ ⟨by omega, by omega⟩) lm_X11_381 li_X11_trySpans (by decide) (by decide) rfl rfl rfl (by decide) rfl rfl (Nat.le_of_ble_eq_true rfl) ⟨Nat.le_refl _, Or.inl rfl⟩ dX11_findOwnSpans_73 ⟨rfl, hV122⟩ (fun r148 V149 hp150 => ?_)
                obtain ⟨rfl, hV151, hF152, hE153⟩ := hp150
                replace hb128 := hb128.trans (pf_call_eq hE153)
                change pm_J X 76 [(4, (0, (x104 - y136))), (0, (3, 0)), (1, (0, a1)), (2, (0, x104)), (3, (0, x119))] [] 118 V149
                have hF154 := pm_ff.tr hF123 hF152 (by decide) (by decide)
                have e155 : V149 0 3 = 4 := by rw [hF152 0 3 (by decide) (by decide)]; exact e124
                have e156 : V149 4 4 = 7 := by rw [hF152 4 4 (by decide) (by decide)]; exact e125
                refine pm_iload hC 0 dX11_findOwnSpans_76 rfl ?_
                refine pm_if_le (tgt := 96) hC ⟨by omega, by omega⟩ dX11_findOwnSpans_78 (by decide) (fun c157 => ?_) (fun c157 => ?_)
                · skip
                  replace hb128 := hb128.trans (if_pos c157)
                  obtain ⟨x158, ei159⟩ : ∃ y : Int, x119 + 1 = y := ⟨_, rfl⟩
                  replace hb128 := hb128.trans (pf_let_eq ei159)
                  refine pm_iinc (y := x158) (lv' := [(3, (0, x158)), (4, (0, (x104 - y136))), (0, (3, 0)), (1, (0, a1)), (2, (0, x104))]) hC 4 dX11_findOwnSpans_96 (by decide) rfl ei159 rfl ?_
                  refine pm_goto (tgt := 41) hC dX11_findOwnSpans_99 (by decide) ?_
                  refine pm_lvsub [2, 3, 4, 0] (lv' := [(0, (3, 0)), (1, (0, a1)), (2, (0, x104)), (3, (0, x158))]) rfl ?_
                  exact ih132 _ (by omega) x158 V149 ⟨by omega, by omega⟩ hV151 hF154 e155 e156 (hb113.trans (pf_val_inl hb128)) rfl
                · skip
                  replace hb128 := hb128.trans (if_neg (Int.not_le.mpr c157))
                  refine pm_iload hC 0 dX11_findOwnSpans_81 rfl ?_
                  refine pm_bipush (v := 12) hC dX11_findOwnSpans_83 (by decide) ?_
                  refine pm_icmp_gt (tgt := 96) hC ⟨by omega, by omega⟩ ⟨by decide, by decide⟩ dX11_findOwnSpans_85 (by decide) (fun c160 => ?_) (fun c160 => ?_)
                  · skip
                    replace hb128 := hb128.trans (if_pos c160)
                    exfalso; omega
                  · skip
                    replace hb128 := hb128.trans (if_neg (Int.not_lt.mpr c160))
                    refine pm_aload_n hC 1 (by decide) dX11_findOwnSpans_88 rfl ?_
                    refine pm_iload_n hC 2 dX11_findOwnSpans_89 rfl ?_
                    refine pm_iload_n hC 4 dX11_findOwnSpans_90 rfl ?_
                    refine pm_iload hC 0 dX11_findOwnSpans_91 rfl ?_
                    refine pm_callV (ci := 11) (as := [(0, a1), (0, x119), (0, (x104 - y136))]) (st := []) hC 0 (fD_X11_trySpans_0 a1 x119 (x104 - y136) ⟨by omega, by omega⟩ ⟨by omega, by omega⟩ ⟨by omega, by omega⟩) lm_X11_381 li_X11_trySpans (by decide) (by decide) rfl rfl rfl (by decide) rfl rfl (Nat.le_of_ble_eq_true rfl) ⟨Nat.le_refl _, Or.inl rfl⟩ dX11_findOwnSpans_93 ⟨rfl, hV151⟩ (fun r161 V162 hp163 => ?_)
                    obtain ⟨rfl, hV164, hF165, hE166⟩ := hp163
                    replace hb128 := hb128.trans (pf_call_eq hE166)
                    change pm_J X 96 [(4, (0, (x104 - y136))), (0, (3, 0)), (1, (0, a1)), (2, (0, x104)), (3, (0, x119))] [] 118 V162
                    have hF167 := pm_ff.tr hF154 hF165 (by decide) (by decide)
                    have e168 : V162 0 3 = 4 := by rw [hF165 0 3 (by decide) (by decide)]; exact e155
                    have e169 : V162 4 4 = 7 := by rw [hF165 4 4 (by decide) (by decide)]; exact e156
                    obtain ⟨x170, ei171⟩ : ∃ y : Int, x119 + 1 = y := ⟨_, rfl⟩
                    replace hb128 := hb128.trans (pf_let_eq ei171)
                    refine pm_iinc (y := x170) (lv' := [(3, (0, x170)), (4, (0, (x104 - y136))), (0, (3, 0)), (1, (0, a1)), (2, (0, x104))]) hC 4 dX11_findOwnSpans_96 (by decide) rfl ei171 rfl ?_
                    refine pm_goto (tgt := 41) hC dX11_findOwnSpans_99 (by decide) ?_
                    refine pm_lvsub [2, 3, 4, 0] (lv' := [(0, (3, 0)), (1, (0, a1)), (2, (0, x104)), (3, (0, x170))]) rfl ?_
                    exact ih132 _ (by omega) x170 V162 ⟨by omega, by omega⟩ hV164 hF167 e168 e169 (hb113.trans (pf_val_inl hb128)) rfl
        refine pm_lvsub [1, 2, 3, 0] (lv' := [(0, (3, 0)), (1, (0, a1)), (2, (0, x104)), (3, (0, (-12)))]) rfl ?_
        exact L129 _ (-12) V106 ⟨by decide, by decide⟩ hV107 hF108 e109 e110 hb113 rfl
    refine pm_lvsub [1, 2, 0] (lv' := [(0, (3, 0)), (1, (0, a1)), (2, (0, 1))]) rfl ?_
    exact L114 _ 1 V93 ⟨by decide, by decide⟩ hV95 hF98 e100 e101 hT rfl
set_option maxHeartbeats 4000000 in
set_option maxRecDepth 100000 in
theorem fD_X11_findOwnOdds_0 (a1 : Int) (h0 : 0 ≤ a1 ∧ a1 ≤ 9) : pm_K 6 yX11_findOwnOdds cX11_findOwnOdds 6 (some .int) (fun av V => av = [(3, 0), (0, a1)] ∧ pm_ok 0 90 V) (fun _ V r V' => ∃ y, r = some (0, y) ∧ (0 ≤ y ∧ y ≤ 16) ∧ pm_ok 0 90 V' ∧ pm_ff [74, 75, 76, 77, 80, 82, 85, 86, 88, 89] [(0, 12), (0, 13), (73, 0), (73, 1), (73, 2), (73, 3), (73, 4), (73, 5), (73, 6), (73, 7), (73, 10), (73, 11), (73, 12), (73, 14), (79, 1), (81, 1), (84, 0), (87, 0)] V V' ∧ F_X11_findOwnOdds a1 V = (y, V')) := by
  refine pm_MT.of (by decide) ⟨Nat.le_refl _, by decide⟩ (fun av V h => by rw [h.1]; exact (by decide : pm_words [(3, 0), (0, 0)] ≤ 6)) ?_
  rintro X av V0 hC - hR ⟨rfl, hV0⟩
  change pm_J X 0 [(0, (3, 0)), (1, (0, a1))] [] 118 V0
  have hT := F_X11_findOwnOdds_eq a1 V0
  refine pm_aload_n hC 0 (by decide) dX11_findOwnOdds_0 rfl ?_
  have e1 : V0 0 3 = 4 := hV0.one 0 3 (by decide) (by decide) rfl
  refine pm_getf (v := 4) hC 0 fl_X11_24 rfl rfl (by decide) rfl e1 dX11_findOwnOdds_1 ?_
  have e2 : V0 4 2 = 5 := hV0.one 4 2 (by decide) (by decide) rfl
  refine pm_getf (v := 5) hC 4 fl_X11_186 rfl rfl (by decide) rfl e2 dX11_findOwnOdds_4 ?_
  refine pm_iload_n hC 1 dX11_findOwnOdds_7 rfl ?_
  obtain ⟨y3, e4⟩ : ∃ y, V0 5 (a1 : Int).toNat = y := ⟨_, rfl⟩
  replace hT := hT.trans (pf_let_eq e4)
  have b5 := hV0.get 5 (a1 : Int).toNat (lo := (-30)) (hi := 30) (by decide) (show _ < 10 by omega) rfl
  rw [e4] at b5
  refine pm_iaload (len := 10) (v := y3) hC 5 rfl rfl (by decide) ⟨by omega, by omega⟩ (by decide) e4 dX11_findOwnOdds_8 ?_
  refine pm_istore_n (lv' := [(2, (0, y3)), (0, (3, 0)), (1, (0, a1))]) hC dX11_findOwnOdds_9 (by decide) rfl ?_
  refine pm_aload_n hC 1 (by decide) dX11_findOwnOdds_10 rfl ?_
  refine pm_getf (v := 4) hC 0 fl_X11_24 rfl rfl (by decide) rfl e1 dX11_findOwnOdds_11 ?_
  have e6 : V0 4 3 = 6 := hV0.one 4 3 (by decide) (by decide) rfl
  refine pm_getf (v := 6) hC 4 fl_X11_189 rfl rfl (by decide) rfl e6 dX11_findOwnOdds_14 ?_
  refine pm_iload_n hC 2 dX11_findOwnOdds_17 rfl ?_
  obtain ⟨y7, e8⟩ : ∃ y, V0 6 (a1 : Int).toNat = y := ⟨_, rfl⟩
  replace hT := hT.trans (pf_let_eq e8)
  have b9 := hV0.get 6 (a1 : Int).toNat (lo := (-30)) (hi := 30) (by decide) (show _ < 10 by omega) rfl
  rw [e8] at b9
  refine pm_iaload (len := 10) (v := y7) hC 6 rfl rfl (by decide) ⟨by omega, by omega⟩ (by decide) e8 dX11_findOwnOdds_18 ?_
  refine pm_istore_n (lv' := [(3, (0, y7)), (2, (0, y3)), (0, (3, 0)), (1, (0, a1))]) hC dX11_findOwnOdds_19 (by decide) rfl ?_
  refine pm_iconst (v := 0) hC dX11_findOwnOdds_20 ?_
  refine pm_istore (lv' := [(4, (0, 0)), (3, (0, y7)), (2, (0, y3)), (0, (3, 0)), (1, (0, a1))]) hC dX11_findOwnOdds_21 (by decide) rfl ?_
  refine pm_aload_n hC 3 (by decide) dX11_findOwnOdds_23 rfl ?_
  refine pm_aload_n hC 3 (by decide) dX11_findOwnOdds_24 rfl ?_
  rcases hV0.get2 0 12 (lo := 84) (hi := 87) (by decide) (by decide) rfl with e10 | e10
  · skip
    replace hT := hT.trans (if_pos e10)
    refine pm_getf (v := 84) hC 0 fl_X11_93 rfl rfl (by decide) rfl e10 dX11_findOwnOdds_25 ?_
    refine pm_iload_n hC 4 dX11_findOwnOdds_28 rfl ?_
    refine pm_iload_n hC 2 dX11_findOwnOdds_29 rfl ?_
    refine pm_iload_n hC 1 dX11_findOwnOdds_30 rfl ?_
    refine pm_iconst (v := 0) hC dX11_findOwnOdds_31 ?_
    refine pm_callV (ci := 11) (as := [(3, 84), (0, a1), (0, y3), (0, y7), (0, 0)]) (st := []) hC 0 (fD_X11_gatherOdds_0_84 a1 y3 y7 0 ⟨by omega, by omega⟩ ⟨by omega, by omega⟩ ⟨by omega, by omega⟩ ⟨by decide, by decide⟩) lm_X11_377 li_X11_gatherOdds (by decide) (by decide) rfl rfl rfl (by decide) rfl rfl (Nat.le_of_ble_eq_true rfl) ⟨Nat.le_refl _, Or.inl rfl⟩ dX11_findOwnOdds_32 ⟨rfl, hV0⟩ (fun r11 V12 hp13 => ?_)
    obtain ⟨rfl, hV14, hF15, hE16⟩ := hp13
    replace hT := hT.trans (pf_call_eq hE16)
    change pm_J X 35 [(4, (0, 0)), (3, (0, y7)), (2, (0, y3)), (0, (3, 0)), (1, (0, a1))] [] 118 V12
    have hF17 := pm_ff.tr (pm_ff.rf (cs := [74, 75, 76, 77, 80, 82, 85, 86, 88, 89]) (fs := [(0, 12), (0, 13), (73, 0), (73, 1), (73, 2), (73, 3), (73, 4), (73, 5), (73, 6), (73, 7), (73, 10), (73, 11), (73, 12), (73, 14), (79, 1), (81, 1), (84, 0), (87, 0)]) (V := V0)) hF15 (by decide) (by decide)
    have e18 : V12 0 3 = 4 := by rw [hF15 0 3 (by decide) (by decide)]; exact e1
    have e19 : V12 4 2 = 5 := by rw [hF15 4 2 (by decide) (by decide)]; exact e2
    have e20 : V12 4 3 = 6 := by rw [hF15 4 3 (by decide) (by decide)]; exact e6
    have e21 : V12 0 12 = 84 := by rw [hF15 0 12 (by decide) (by decide)]; exact e10
    refine pm_iconst (v := 1) hC dX11_findOwnOdds_35 ?_
    refine pm_istore (lv' := [(5, (0, 1)), (4, (0, 0)), (3, (0, y7)), (2, (0, y3)), (0, (3, 0)), (1, (0, a1))]) hC dX11_findOwnOdds_36 (by decide) rfl ?_
    obtain ⟨B32, hB33, hT⟩ := pf_loop hT
    have L35 : ∀ (N37 : Nat) (x22 : Int) (x24 : Int) (V26 : pm_M), (0 ≤ x22 ∧ x22 ≤ 16) → (1 ≤ x24 ∧ x24 ≤ 60) → pm_ok 0 90 V26 → pm_ff [74, 75, 76, 77, 80, 82, 85, 86, 88, 89] [(0, 12), (0, 13), (73, 0), (73, 1), (73, 2), (73, 3), (73, 4), (73, 5), (73, 6), (73, 7), (73, 10), (73, 11), (73, 12), (73, 14), (79, 1), (81, 1), (84, 0), (87, 0)] V0 V26 → V26 0 3 = 4 → V26 4 2 = 5 → V26 4 3 = 6 → F_X11_findOwnOdds a1 V0 = pf_val ((0 : Int), V0) B32 (x22, x24, V26) → (Int.toNat (60 - x24)) = N37 → pm_J X 38 [(0, (3, 0)), (1, (0, a1)), (2, (0, y3)), (3, (0, y7)), (4, (0, x22)), (5, (0, x24))] [] 118 V26 := by
      intro N37
      induction N37 using Nat.strongRecOn with
      | _ N37 ih38 =>
      intro x22 x24 V26 b23 b25 hV27 hF28 e29 e30 e31 hT hm36
      have hb34 := congrFun hB33 (x22, x24, V26)
      refine pm_iload hC 5 dX11_findOwnOdds_38 rfl ?_
      refine pm_bipush (v := 16) hC dX11_findOwnOdds_40 (by decide) ?_
      refine pm_icmp_gt (tgt := 75) hC ⟨by omega, by omega⟩ ⟨by decide, by decide⟩ dX11_findOwnOdds_42 (by decide) (fun c39 => ?_) (fun c39 => ?_)
      · skip
        replace hb34 := hb34.trans (if_pos c39)
        refine pm_iload hC 4 dX11_findOwnOdds_75 rfl ?_
        have hT := hT.trans (pf_val_inr hb34)
        exact pm_iret hC hR pm_nar0 ⟨x22, rfl, ⟨by omega, by omega⟩, hV27, hF28, hT⟩ dX11_findOwnOdds_77
      · skip
        replace hb34 := hb34.trans (if_neg (Int.not_lt.mpr c39))
        refine pm_aload_n hC 0 (by decide) dX11_findOwnOdds_45 rfl ?_
        refine pm_aload_n hC 0 (by decide) dX11_findOwnOdds_46 rfl ?_
        rcases hV27.get2 0 13 (lo := 84) (hi := 87) (by decide) (by decide) rfl with e40 | e40
        · skip
          replace hb34 := hb34.trans (if_pos e40)
          refine pm_getf (v := 84) hC 0 fl_X11_97 rfl rfl (by decide) rfl e40 dX11_findOwnOdds_47 ?_
          refine pm_iload_n hC 1 dX11_findOwnOdds_50 rfl ?_
          refine pm_iload_n hC 2 dX11_findOwnOdds_51 rfl ?_
          refine pm_iload_n hC 3 dX11_findOwnOdds_52 rfl ?_
          refine pm_iload hC 5 dX11_findOwnOdds_53 rfl ?_
          refine pm_callV (ci := 11) (as := [(3, 84), (0, a1), (0, y3), (0, y7), (0, x24)]) (st := []) hC 0 (fD_X11_gatherOdds_0_84 a1 y3 y7 x24 ⟨by omega, by omega⟩ ⟨by omega, by omega⟩ ⟨by omega, by omega⟩ ⟨by omega, by omega⟩) lm_X11_377 li_X11_gatherOdds (by decide) (by decide) rfl rfl rfl (by decide) rfl rfl (Nat.le_of_ble_eq_true rfl) ⟨Nat.le_refl _, Or.inl rfl⟩ dX11_findOwnOdds_55 ⟨rfl, hV27⟩ (fun r41 V42 hp43 => ?_)
          obtain ⟨rfl, hV44, hF45, hE46⟩ := hp43
          replace hb34 := hb34.trans (pf_call_eq hE46)
          change pm_J X 58 [(0, (3, 0)), (1, (0, a1)), (2, (0, y3)), (3, (0, y7)), (4, (0, x22)), (5, (0, x24))] [] 118 V42
          have hF47 := pm_ff.tr hF28 hF45 (by decide) (by decide)
          have e48 : V42 0 3 = 4 := by rw [hF45 0 3 (by decide) (by decide)]; exact e29
          have e49 : V42 4 2 = 5 := by rw [hF45 4 2 (by decide) (by decide)]; exact e30
          have e50 : V42 4 3 = 6 := by rw [hF45 4 3 (by decide) (by decide)]; exact e31
          have e51 : V42 0 13 = 84 := by rw [hF45 0 13 (by decide) (by decide)]; exact e40
          refine pm_aload_n hC 0 (by decide) dX11_findOwnOdds_58 rfl ?_
          refine pm_callV (ci := 11) (as := []) (st := []) hC 0 fD_X11_keepsTried_0 lm_X11_276 li_X11_keepsTried (by decide) (by decide) rfl rfl rfl (by decide) rfl rfl (Nat.le_of_ble_eq_true rfl) ⟨Nat.le_refl _, Or.inl rfl⟩ dX11_findOwnOdds_59 ⟨rfl, hV44⟩ (fun r52 V53 hp54 => ?_)
          obtain ⟨y55, rfl, b56, hV57, hF58, hE59⟩ := hp54
          replace hb34 := hb34.trans (pf_call_eq hE59)
          change pm_J X 62 [(0, (3, 0)), (1, (0, a1)), (2, (0, y3)), (3, (0, y7)), (4, (0, x22)), (5, (0, x24))] [(0, y55)] 118 V53
          have hF60 := pm_ff.tr hF47 hF58 (by decide) (by decide)
          have e61 : V53 0 3 = 4 := by rw [hF58 0 3 (by decide) (by decide)]; exact e48
          have e62 : V53 4 2 = 5 := by rw [hF58 4 2 (by decide) (by decide)]; exact e49
          have e63 : V53 4 3 = 6 := by rw [hF58 4 3 (by decide) (by decide)]; exact e50
          refine pm_if_eq (tgt := 69) hC ⟨by omega, by omega⟩ dX11_findOwnOdds_62 (by decide) (fun c64 => ?_) (fun c64 => ?_)
          · skip
            replace hb34 := hb34.trans (if_pos c64)
            obtain ⟨x65, ei66⟩ : ∃ y : Int, x24 + 1 = y := ⟨_, rfl⟩
            replace hb34 := hb34.trans (pf_let_eq ei66)
            refine pm_iinc (y := x65) (lv' := [(5, (0, x65)), (0, (3, 0)), (1, (0, a1)), (2, (0, y3)), (3, (0, y7)), (4, (0, x22))]) hC 5 dX11_findOwnOdds_69 (by decide) rfl ei66 rfl ?_
            refine pm_goto (tgt := 38) hC dX11_findOwnOdds_72 (by decide) ?_
            refine pm_lvsub [1, 2, 3, 4, 5, 0] (lv' := [(0, (3, 0)), (1, (0, a1)), (2, (0, y3)), (3, (0, y7)), (4, (0, x22)), (5, (0, x65))]) rfl ?_
            exact ih38 _ (by omega) x22 x65 V53 ⟨by omega, by omega⟩ ⟨by omega, by omega⟩ hV57 hF60 e61 e62 e63 (hT.trans (pf_val_inl hb34)) rfl
          · skip
            replace hb34 := hb34.trans (if_neg c64)
            refine pm_iload hC 5 dX11_findOwnOdds_65 rfl ?_
            refine pm_istore (lv' := [(4, (0, x24)), (0, (3, 0)), (1, (0, a1)), (2, (0, y3)), (3, (0, y7)), (5, (0, x24))]) hC dX11_findOwnOdds_67 (by decide) rfl ?_
            obtain ⟨x67, ei68⟩ : ∃ y : Int, x24 + 1 = y := ⟨_, rfl⟩
            replace hb34 := hb34.trans (pf_let_eq ei68)
            refine pm_iinc (y := x67) (lv' := [(5, (0, x67)), (4, (0, x24)), (0, (3, 0)), (1, (0, a1)), (2, (0, y3)), (3, (0, y7))]) hC 5 dX11_findOwnOdds_69 (by decide) rfl ei68 rfl ?_
            refine pm_goto (tgt := 38) hC dX11_findOwnOdds_72 (by decide) ?_
            refine pm_lvsub [2, 3, 4, 5, 1, 0] (lv' := [(0, (3, 0)), (1, (0, a1)), (2, (0, y3)), (3, (0, y7)), (4, (0, x24)), (5, (0, x67))]) rfl ?_
            exact ih38 _ (by omega) x24 x67 V53 ⟨by omega, by omega⟩ ⟨by omega, by omega⟩ hV57 hF60 e61 e62 e63 (hT.trans (pf_val_inl hb34)) rfl
        · skip
          replace hb34 := hb34.trans (if_neg (by rw [e40]; decide))
          refine pm_getf (v := 87) hC 0 fl_X11_97 rfl rfl (by decide) rfl e40 dX11_findOwnOdds_47 ?_
          refine pm_iload_n hC 1 dX11_findOwnOdds_50 rfl ?_
          refine pm_iload_n hC 2 dX11_findOwnOdds_51 rfl ?_
          refine pm_iload_n hC 3 dX11_findOwnOdds_52 rfl ?_
          refine pm_iload hC 5 dX11_findOwnOdds_53 rfl ?_
          refine pm_callV (ci := 11) (as := [(3, 87), (0, a1), (0, y3), (0, y7), (0, x24)]) (st := []) hC 0 (fD_X11_gatherOdds_0_87 a1 y3 y7 x24 ⟨by omega, by omega⟩ ⟨by omega, by omega⟩ ⟨by omega, by omega⟩ ⟨by omega, by omega⟩) lm_X11_377 li_X11_gatherOdds (by decide) (by decide) rfl rfl rfl (by decide) rfl rfl (Nat.le_of_ble_eq_true rfl) ⟨Nat.le_refl _, Or.inl rfl⟩ dX11_findOwnOdds_55 ⟨rfl, hV27⟩ (fun r69 V70 hp71 => ?_)
          obtain ⟨rfl, hV72, hF73, hE74⟩ := hp71
          replace hb34 := hb34.trans (pf_call_eq hE74)
          change pm_J X 58 [(0, (3, 0)), (1, (0, a1)), (2, (0, y3)), (3, (0, y7)), (4, (0, x22)), (5, (0, x24))] [] 118 V70
          have hF75 := pm_ff.tr hF28 hF73 (by decide) (by decide)
          have e76 : V70 0 3 = 4 := by rw [hF73 0 3 (by decide) (by decide)]; exact e29
          have e77 : V70 4 2 = 5 := by rw [hF73 4 2 (by decide) (by decide)]; exact e30
          have e78 : V70 4 3 = 6 := by rw [hF73 4 3 (by decide) (by decide)]; exact e31
          have e79 : V70 0 13 = 87 := by rw [hF73 0 13 (by decide) (by decide)]; exact e40
          refine pm_aload_n hC 0 (by decide) dX11_findOwnOdds_58 rfl ?_
          refine pm_callV (ci := 11) (as := []) (st := []) hC 0 fD_X11_keepsTried_0 lm_X11_276 li_X11_keepsTried (by decide) (by decide) rfl rfl rfl (by decide) rfl rfl (Nat.le_of_ble_eq_true rfl) ⟨Nat.le_refl _, Or.inl rfl⟩ dX11_findOwnOdds_59 ⟨rfl, hV72⟩ (fun r80 V81 hp82 => ?_)
          obtain ⟨y83, rfl, b84, hV85, hF86, hE87⟩ := hp82
          replace hb34 := hb34.trans (pf_call_eq hE87)
          change pm_J X 62 [(0, (3, 0)), (1, (0, a1)), (2, (0, y3)), (3, (0, y7)), (4, (0, x22)), (5, (0, x24))] [(0, y83)] 118 V81
          have hF88 := pm_ff.tr hF75 hF86 (by decide) (by decide)
          have e89 : V81 0 3 = 4 := by rw [hF86 0 3 (by decide) (by decide)]; exact e76
          have e90 : V81 4 2 = 5 := by rw [hF86 4 2 (by decide) (by decide)]; exact e77
          have e91 : V81 4 3 = 6 := by rw [hF86 4 3 (by decide) (by decide)]; exact e78
          refine pm_if_eq (tgt := 69) hC ⟨by omega, by omega⟩ dX11_findOwnOdds_62 (by decide) (fun c92 => ?_) (fun c92 => ?_)
          · skip
            replace hb34 := hb34.trans (if_pos c92)
            obtain ⟨x93, ei94⟩ : ∃ y : Int, x24 + 1 = y := ⟨_, rfl⟩
            replace hb34 := hb34.trans (pf_let_eq ei94)
            refine pm_iinc (y := x93) (lv' := [(5, (0, x93)), (0, (3, 0)), (1, (0, a1)), (2, (0, y3)), (3, (0, y7)), (4, (0, x22))]) hC 5 dX11_findOwnOdds_69 (by decide) rfl ei94 rfl ?_
            refine pm_goto (tgt := 38) hC dX11_findOwnOdds_72 (by decide) ?_
            refine pm_lvsub [1, 2, 3, 4, 5, 0] (lv' := [(0, (3, 0)), (1, (0, a1)), (2, (0, y3)), (3, (0, y7)), (4, (0, x22)), (5, (0, x93))]) rfl ?_
            exact ih38 _ (by omega) x22 x93 V81 ⟨by omega, by omega⟩ ⟨by omega, by omega⟩ hV85 hF88 e89 e90 e91 (hT.trans (pf_val_inl hb34)) rfl
          · skip
            replace hb34 := hb34.trans (if_neg c92)
            refine pm_iload hC 5 dX11_findOwnOdds_65 rfl ?_
            refine pm_istore (lv' := [(4, (0, x24)), (0, (3, 0)), (1, (0, a1)), (2, (0, y3)), (3, (0, y7)), (5, (0, x24))]) hC dX11_findOwnOdds_67 (by decide) rfl ?_
            obtain ⟨x95, ei96⟩ : ∃ y : Int, x24 + 1 = y := ⟨_, rfl⟩
            replace hb34 := hb34.trans (pf_let_eq ei96)
            refine pm_iinc (y := x95) (lv' := [(5, (0, x95)), (4, (0, x24)), (0, (3, 0)), (1, (0, a1)), (2, (0, y3)), (3, (0, y7))]) hC 5 dX11_findOwnOdds_69 (by decide) rfl ei96 rfl ?_
            refine pm_goto (tgt := 38) hC dX11_findOwnOdds_72 (by decide) ?_
            refine pm_lvsub [2, 3, 4, 5, 1, 0] (lv' := [(0, (3, 0)), (1, (0, a1)), (2, (0, y3)), (3, (0, y7)), (4, (0, x24)), (5, (0, x95))]) rfl ?_
            exact ih38 _ (by omega) x24 x95 V81 ⟨by omega, by omega⟩ ⟨by omega, by omega⟩ hV85 hF88 e89 e90 e91 (hT.trans (pf_val_inl hb34)) rfl
    refine pm_lvsub [4, 5, 3, 2, 1, 0] (lv' := [(0, (3, 0)), (1, (0, a1)), (2, (0, y3)), (3, (0, y7)), (4, (0, 0)), (5, (0, 1))]) rfl ?_
    exact L35 _ 0 1 V12 ⟨by decide, by decide⟩ ⟨by decide, by decide⟩ hV14 hF17 e18 e19 e20 hT rfl
  · skip
    replace hT := hT.trans (if_neg (by rw [e10]; decide))
    refine pm_getf (v := 87) hC 0 fl_X11_93 rfl rfl (by decide) rfl e10 dX11_findOwnOdds_25 ?_
    refine pm_iload_n hC 4 dX11_findOwnOdds_28 rfl ?_
    refine pm_iload_n hC 2 dX11_findOwnOdds_29 rfl ?_
    refine pm_iload_n hC 1 dX11_findOwnOdds_30 rfl ?_
    refine pm_iconst (v := 0) hC dX11_findOwnOdds_31 ?_
    refine pm_callV (ci := 11) (as := [(3, 87), (0, a1), (0, y3), (0, y7), (0, 0)]) (st := []) hC 0 (fD_X11_gatherOdds_0_87 a1 y3 y7 0 ⟨by omega, by omega⟩ ⟨by omega, by omega⟩ ⟨by omega, by omega⟩ ⟨by decide, by decide⟩) lm_X11_377 li_X11_gatherOdds (by decide) (by decide) rfl rfl rfl (by decide) rfl rfl (Nat.le_of_ble_eq_true rfl) ⟨Nat.le_refl _, Or.inl rfl⟩ dX11_findOwnOdds_32 ⟨rfl, hV0⟩ (fun r97 V98 hp99 => ?_)
    obtain ⟨rfl, hV100, hF101, hE102⟩ := hp99
    replace hT := hT.trans (pf_call_eq hE102)
    change pm_J X 35 [(4, (0, 0)), (3, (0, y7)), (2, (0, y3)), (0, (3, 0)), (1, (0, a1))] [] 118 V98
    have hF103 := pm_ff.tr (pm_ff.rf (cs := [74, 75, 76, 77, 80, 82, 85, 86, 88, 89]) (fs := [(0, 12), (0, 13), (73, 0), (73, 1), (73, 2), (73, 3), (73, 4), (73, 5), (73, 6), (73, 7), (73, 10), (73, 11), (73, 12), (73, 14), (79, 1), (81, 1), (84, 0), (87, 0)]) (V := V0)) hF101 (by decide) (by decide)
    have e104 : V98 0 3 = 4 := by rw [hF101 0 3 (by decide) (by decide)]; exact e1
    have e105 : V98 4 2 = 5 := by rw [hF101 4 2 (by decide) (by decide)]; exact e2
    have e106 : V98 4 3 = 6 := by rw [hF101 4 3 (by decide) (by decide)]; exact e6
    have e107 : V98 0 12 = 87 := by rw [hF101 0 12 (by decide) (by decide)]; exact e10
    refine pm_iconst (v := 1) hC dX11_findOwnOdds_35 ?_
    refine pm_istore (lv' := [(5, (0, 1)), (4, (0, 0)), (3, (0, y7)), (2, (0, y3)), (0, (3, 0)), (1, (0, a1))]) hC dX11_findOwnOdds_36 (by decide) rfl ?_
    obtain ⟨B118, hB119, hT⟩ := pf_loop hT
    have L121 : ∀ (N123 : Nat) (x108 : Int) (x110 : Int) (V112 : pm_M), (0 ≤ x108 ∧ x108 ≤ 16) → (1 ≤ x110 ∧ x110 ≤ 60) → pm_ok 0 90 V112 → pm_ff [74, 75, 76, 77, 80, 82, 85, 86, 88, 89] [(0, 12), (0, 13), (73, 0), (73, 1), (73, 2), (73, 3), (73, 4), (73, 5), (73, 6), (73, 7), (73, 10), (73, 11), (73, 12), (73, 14), (79, 1), (81, 1), (84, 0), (87, 0)] V0 V112 → V112 0 3 = 4 → V112 4 2 = 5 → V112 4 3 = 6 → F_X11_findOwnOdds a1 V0 = pf_val ((0 : Int), V0) B118 (x108, x110, V112) → (Int.toNat (60 - x110)) = N123 → pm_J X 38 [(0, (3, 0)), (1, (0, a1)), (2, (0, y3)), (3, (0, y7)), (4, (0, x108)), (5, (0, x110))] [] 118 V112 := by
      intro N123
      induction N123 using Nat.strongRecOn with
      | _ N123 ih124 =>
      intro x108 x110 V112 b109 b111 hV113 hF114 e115 e116 e117 hT hm122
      have hb120 := congrFun hB119 (x108, x110, V112)
      refine pm_iload hC 5 dX11_findOwnOdds_38 rfl ?_
      refine pm_bipush (v := 16) hC dX11_findOwnOdds_40 (by decide) ?_
      refine pm_icmp_gt (tgt := 75) hC ⟨by omega, by omega⟩ ⟨by decide, by decide⟩ dX11_findOwnOdds_42 (by decide) (fun c125 => ?_) (fun c125 => ?_)
      · skip
        replace hb120 := hb120.trans (if_pos c125)
        refine pm_iload hC 4 dX11_findOwnOdds_75 rfl ?_
        have hT := hT.trans (pf_val_inr hb120)
        exact pm_iret hC hR pm_nar0 ⟨x108, rfl, ⟨by omega, by omega⟩, hV113, hF114, hT⟩ dX11_findOwnOdds_77
      · skip
        replace hb120 := hb120.trans (if_neg (Int.not_lt.mpr c125))
        refine pm_aload_n hC 0 (by decide) dX11_findOwnOdds_45 rfl ?_
        refine pm_aload_n hC 0 (by decide) dX11_findOwnOdds_46 rfl ?_
        rcases hV113.get2 0 13 (lo := 84) (hi := 87) (by decide) (by decide) rfl with e126 | e126
        · skip
          replace hb120 := hb120.trans (if_pos e126)
          refine pm_getf (v := 84) hC 0 fl_X11_97 rfl rfl (by decide) rfl e126 dX11_findOwnOdds_47 ?_
          refine pm_iload_n hC 1 dX11_findOwnOdds_50 rfl ?_
          refine pm_iload_n hC 2 dX11_findOwnOdds_51 rfl ?_
          refine pm_iload_n hC 3 dX11_findOwnOdds_52 rfl ?_
          refine pm_iload hC 5 dX11_findOwnOdds_53 rfl ?_
          refine pm_callV (ci := 11) (as := [(3, 84), (0, a1), (0, y3), (0, y7), (0, x110)]) (st := []) hC 0 (fD_X11_gatherOdds_0_84 a1 y3 y7 x110 ⟨by omega, by omega⟩ ⟨by omega, by omega⟩ ⟨by omega, by omega⟩ ⟨by omega, by omega⟩) lm_X11_377 li_X11_gatherOdds (by decide) (by decide) rfl rfl rfl (by decide) rfl rfl (Nat.le_of_ble_eq_true rfl) ⟨Nat.le_refl _, Or.inl rfl⟩ dX11_findOwnOdds_55 ⟨rfl, hV113⟩ (fun r127 V128 hp129 => ?_)
          obtain ⟨rfl, hV130, hF131, hE132⟩ := hp129
          replace hb120 := hb120.trans (pf_call_eq hE132)
          change pm_J X 58 [(0, (3, 0)), (1, (0, a1)), (2, (0, y3)), (3, (0, y7)), (4, (0, x108)), (5, (0, x110))] [] 118 V128
          have hF133 := pm_ff.tr hF114 hF131 (by decide) (by decide)
          have e134 : V128 0 3 = 4 := by rw [hF131 0 3 (by decide) (by decide)]; exact e115
          have e135 : V128 4 2 = 5 := by rw [hF131 4 2 (by decide) (by decide)]; exact e116
          have e136 : V128 4 3 = 6 := by rw [hF131 4 3 (by decide) (by decide)]; exact e117
          have e137 : V128 0 13 = 84 := by rw [hF131 0 13 (by decide) (by decide)]; exact e126
          refine pm_aload_n hC 0 (by decide) dX11_findOwnOdds_58 rfl ?_
          refine pm_callV (ci := 11) (as := []) (st := []) hC 0 fD_X11_keepsTried_0 lm_X11_276 li_X11_keepsTried (by decide) (by decide) rfl rfl rfl (by decide) rfl rfl (Nat.le_of_ble_eq_true rfl) ⟨Nat.le_refl _, Or.inl rfl⟩ dX11_findOwnOdds_59 ⟨rfl, hV130⟩ (fun r138 V139 hp140 => ?_)
          obtain ⟨y141, rfl, b142, hV143, hF144, hE145⟩ := hp140
          replace hb120 := hb120.trans (pf_call_eq hE145)
          change pm_J X 62 [(0, (3, 0)), (1, (0, a1)), (2, (0, y3)), (3, (0, y7)), (4, (0, x108)), (5, (0, x110))] [(0, y141)] 118 V139
          have hF146 := pm_ff.tr hF133 hF144 (by decide) (by decide)
          have e147 : V139 0 3 = 4 := by rw [hF144 0 3 (by decide) (by decide)]; exact e134
          have e148 : V139 4 2 = 5 := by rw [hF144 4 2 (by decide) (by decide)]; exact e135
          have e149 : V139 4 3 = 6 := by rw [hF144 4 3 (by decide) (by decide)]; exact e136
          refine pm_if_eq (tgt := 69) hC ⟨by omega, by omega⟩ dX11_findOwnOdds_62 (by decide) (fun c150 => ?_) (fun c150 => ?_)
          · skip
            replace hb120 := hb120.trans (if_pos c150)
            obtain ⟨x151, ei152⟩ : ∃ y : Int, x110 + 1 = y := ⟨_, rfl⟩
            replace hb120 := hb120.trans (pf_let_eq ei152)
            refine pm_iinc (y := x151) (lv' := [(5, (0, x151)), (0, (3, 0)), (1, (0, a1)), (2, (0, y3)), (3, (0, y7)), (4, (0, x108))]) hC 5 dX11_findOwnOdds_69 (by decide) rfl ei152 rfl ?_
            refine pm_goto (tgt := 38) hC dX11_findOwnOdds_72 (by decide) ?_
            refine pm_lvsub [1, 2, 3, 4, 5, 0] (lv' := [(0, (3, 0)), (1, (0, a1)), (2, (0, y3)), (3, (0, y7)), (4, (0, x108)), (5, (0, x151))]) rfl ?_
            exact ih124 _ (by omega) x108 x151 V139 ⟨by omega, by omega⟩ ⟨by omega, by omega⟩ hV143 hF146 e147 e148 e149 (hT.trans (pf_val_inl hb120)) rfl
          · skip
            replace hb120 := hb120.trans (if_neg c150)
            refine pm_iload hC 5 dX11_findOwnOdds_65 rfl ?_
            refine pm_istore (lv' := [(4, (0, x110)), (0, (3, 0)), (1, (0, a1)), (2, (0, y3)), (3, (0, y7)), (5, (0, x110))]) hC dX11_findOwnOdds_67 (by decide) rfl ?_
            obtain ⟨x153, ei154⟩ : ∃ y : Int, x110 + 1 = y := ⟨_, rfl⟩
            replace hb120 := hb120.trans (pf_let_eq ei154)
            refine pm_iinc (y := x153) (lv' := [(5, (0, x153)), (4, (0, x110)), (0, (3, 0)), (1, (0, a1)), (2, (0, y3)), (3, (0, y7))]) hC 5 dX11_findOwnOdds_69 (by decide) rfl ei154 rfl ?_
            refine pm_goto (tgt := 38) hC dX11_findOwnOdds_72 (by decide) ?_
            refine pm_lvsub [2, 3, 4, 5, 1, 0] (lv' := [(0, (3, 0)), (1, (0, a1)), (2, (0, y3)), (3, (0, y7)), (4, (0, x110)), (5, (0, x153))]) rfl ?_
            exact ih124 _ (by omega) x110 x153 V139 ⟨by omega, by omega⟩ ⟨by omega, by omega⟩ hV143 hF146 e147 e148 e149 (hT.trans (pf_val_inl hb120)) rfl
        · skip
          replace hb120 := hb120.trans (if_neg (by rw [e126]; decide))
          refine pm_getf (v := 87) hC 0 fl_X11_97 rfl rfl (by decide) rfl e126 dX11_findOwnOdds_47 ?_
          refine pm_iload_n hC 1 dX11_findOwnOdds_50 rfl ?_
          refine pm_iload_n hC 2 dX11_findOwnOdds_51 rfl ?_
          refine pm_iload_n hC 3 dX11_findOwnOdds_52 rfl ?_
          refine pm_iload hC 5 dX11_findOwnOdds_53 rfl ?_
          refine pm_callV (ci := 11) (as := [(3, 87), (0, a1), (0, y3), (0, y7), (0, x110)]) (st := []) hC 0 (fD_X11_gatherOdds_0_87 a1 y3 y7 x110 ⟨by omega, by omega⟩ ⟨by omega, by omega⟩ ⟨by omega, by omega⟩ ⟨by omega, by omega⟩) lm_X11_377 li_X11_gatherOdds (by decide) (by decide) rfl rfl rfl (by decide) rfl rfl (Nat.le_of_ble_eq_true rfl) ⟨Nat.le_refl _, Or.inl rfl⟩ dX11_findOwnOdds_55 ⟨rfl, hV113⟩ (fun r155 V156 hp157 => ?_)
          obtain ⟨rfl, hV158, hF159, hE160⟩ := hp157
          replace hb120 := hb120.trans (pf_call_eq hE160)
          change pm_J X 58 [(0, (3, 0)), (1, (0, a1)), (2, (0, y3)), (3, (0, y7)), (4, (0, x108)), (5, (0, x110))] [] 118 V156
          have hF161 := pm_ff.tr hF114 hF159 (by decide) (by decide)
          have e162 : V156 0 3 = 4 := by rw [hF159 0 3 (by decide) (by decide)]; exact e115
          have e163 : V156 4 2 = 5 := by rw [hF159 4 2 (by decide) (by decide)]; exact e116
          have e164 : V156 4 3 = 6 := by rw [hF159 4 3 (by decide) (by decide)]; exact e117
          have e165 : V156 0 13 = 87 := by rw [hF159 0 13 (by decide) (by decide)]; exact e126
          refine pm_aload_n hC 0 (by decide) dX11_findOwnOdds_58 rfl ?_
          refine pm_callV (ci := 11) (as := []) (st := []) hC 0 fD_X11_keepsTried_0 lm_X11_276 li_X11_keepsTried (by decide) (by decide) rfl rfl rfl (by decide) rfl rfl (Nat.le_of_ble_eq_true rfl) ⟨Nat.le_refl _, Or.inl rfl⟩ dX11_findOwnOdds_59 ⟨rfl, hV158⟩ (fun r166 V167 hp168 => ?_)
          obtain ⟨y169, rfl, b170, hV171, hF172, hE173⟩ := hp168
          replace hb120 := hb120.trans (pf_call_eq hE173)
          change pm_J X 62 [(0, (3, 0)), (1, (0, a1)), (2, (0, y3)), (3, (0, y7)), (4, (0, x108)), (5, (0, x110))] [(0, y169)] 118 V167
          have hF174 := pm_ff.tr hF161 hF172 (by decide) (by decide)
          have e175 : V167 0 3 = 4 := by rw [hF172 0 3 (by decide) (by decide)]; exact e162
          have e176 : V167 4 2 = 5 := by rw [hF172 4 2 (by decide) (by decide)]; exact e163
          have e177 : V167 4 3 = 6 := by rw [hF172 4 3 (by decide) (by decide)]; exact e164
          refine pm_if_eq (tgt := 69) hC ⟨by omega, by omega⟩ dX11_findOwnOdds_62 (by decide) (fun c178 => ?_) (fun c178 => ?_)
          · skip
            replace hb120 := hb120.trans (if_pos c178)
            obtain ⟨x179, ei180⟩ : ∃ y : Int, x110 + 1 = y := ⟨_, rfl⟩
            replace hb120 := hb120.trans (pf_let_eq ei180)
            refine pm_iinc (y := x179) (lv' := [(5, (0, x179)), (0, (3, 0)), (1, (0, a1)), (2, (0, y3)), (3, (0, y7)), (4, (0, x108))]) hC 5 dX11_findOwnOdds_69 (by decide) rfl ei180 rfl ?_
            refine pm_goto (tgt := 38) hC dX11_findOwnOdds_72 (by decide) ?_
            refine pm_lvsub [1, 2, 3, 4, 5, 0] (lv' := [(0, (3, 0)), (1, (0, a1)), (2, (0, y3)), (3, (0, y7)), (4, (0, x108)), (5, (0, x179))]) rfl ?_
            exact ih124 _ (by omega) x108 x179 V167 ⟨by omega, by omega⟩ ⟨by omega, by omega⟩ hV171 hF174 e175 e176 e177 (hT.trans (pf_val_inl hb120)) rfl
          · skip
            replace hb120 := hb120.trans (if_neg c178)
            refine pm_iload hC 5 dX11_findOwnOdds_65 rfl ?_
            refine pm_istore (lv' := [(4, (0, x110)), (0, (3, 0)), (1, (0, a1)), (2, (0, y3)), (3, (0, y7)), (5, (0, x110))]) hC dX11_findOwnOdds_67 (by decide) rfl ?_
            obtain ⟨x181, ei182⟩ : ∃ y : Int, x110 + 1 = y := ⟨_, rfl⟩
            replace hb120 := hb120.trans (pf_let_eq ei182)
            refine pm_iinc (y := x181) (lv' := [(5, (0, x181)), (4, (0, x110)), (0, (3, 0)), (1, (0, a1)), (2, (0, y3)), (3, (0, y7))]) hC 5 dX11_findOwnOdds_69 (by decide) rfl ei182 rfl ?_
            refine pm_goto (tgt := 38) hC dX11_findOwnOdds_72 (by decide) ?_
            refine pm_lvsub [2, 3, 4, 5, 1, 0] (lv' := [(0, (3, 0)), (1, (0, a1)), (2, (0, y3)), (3, (0, y7)), (4, (0, x110)), (5, (0, x181))]) rfl ?_
            exact ih124 _ (by omega) x110 x181 V167 ⟨by omega, by omega⟩ ⟨by omega, by omega⟩ hV171 hF174 e175 e176 e177 (hT.trans (pf_val_inl hb120)) rfl
    refine pm_lvsub [4, 5, 3, 2, 1, 0] (lv' := [(0, (3, 0)), (1, (0, a1)), (2, (0, y3)), (3, (0, y7)), (4, (0, 0)), (5, (0, 1))]) rfl ?_
    exact L121 _ 0 1 V98 ⟨by decide, by decide⟩ ⟨by decide, by decide⟩ hV100 hF103 e104 e105 e106 hT rfl
set_option maxHeartbeats 4000000 in
set_option maxRecDepth 100000 in
theorem fD_X11_own_0 (a1 a2 : Int) (h0 : (-2147483648) ≤ a1 ∧ a1 ≤ 2147483647) (h1 : (-2147483648) ≤ a2 ∧ a2 ≤ 2147483647) : pm_K 8 yX11_own cX11_own 3 (some .int) (fun av V => av = [(3, 0), (0, a1), (0, a2)] ∧ pm_ok 0 90 V) (fun _ V r V' => ∃ y, r = some (0, y) ∧ ((-2147483648) ≤ y ∧ y ≤ 2147483647) ∧ pm_ok 0 90 V' ∧ pm_ff [74, 75, 76, 77, 80, 82, 85, 86, 88, 89] [(0, 12), (0, 13), (0, 14), (0, 15), (73, 0), (73, 1), (73, 2), (73, 3), (73, 4), (73, 5), (73, 6), (73, 7), (73, 10), (73, 11), (73, 12), (73, 14), (79, 1), (81, 1), (84, 0), (87, 0)] V V' ∧ F_X11_own a1 a2 V = (y, V')) := by
  refine pm_MT.of (by decide) ⟨Nat.le_refl _, by decide⟩ (fun av V h => by rw [h.1]; exact (by decide : pm_words [(3, 0), (0, 0), (0, 0)] ≤ 3)) ?_
  rintro X av V0 hC - hR ⟨rfl, hV0⟩
  change pm_J X 0 [(0, (3, 0)), (1, (0, a1)), (2, (0, a2))] [] 118 V0
  have hT := F_X11_own_eq a1 a2 V0
  refine pm_aload_n hC 0 (by decide) dX11_own_0 rfl ?_
  refine pm_iload_n hC 1 dX11_own_1 rfl ?_
  refine pm_callV (ci := 11) (as := [(0, a1)]) (st := []) hC 0 (fD_X11_isPerson_0 a1 ⟨by omega, by omega⟩) lm_X11_183 li_X11_isPerson (by decide) (by decide) rfl rfl rfl (by decide) rfl rfl (Nat.le_of_ble_eq_true rfl) ⟨Nat.le_refl _, Or.inl rfl⟩ dX11_own_2 ⟨rfl, hV0⟩ (fun r1 V2 hp3 => ?_)
  obtain ⟨y4, rfl, b5, rfl, hE6⟩ := hp3
  replace hT := hT.trans (pf_call_eq hE6)
  change pm_J X 5 [(0, (3, 0)), (1, (0, a1)), (2, (0, a2))] [(0, y4)] 118 V0
  refine pm_if_eq (tgt := 17) hC ⟨by omega, by omega⟩ dX11_own_5 (by decide) (fun c7 => ?_) (fun c7 => ?_)
  · skip
    replace hT := hT.trans (if_pos c7)
    refine pm_ldc (v := (-2147483648)) hC 3153 dX11_own_17 (by decide +kernel) ?_
    exact pm_iret hC hR pm_nar0 ⟨(-2147483648), rfl, ⟨by omega, by omega⟩, hV0, (pm_ff.rf (cs := [74, 75, 76, 77, 80, 82, 85, 86, 88, 89]) (fs := [(0, 12), (0, 13), (0, 14), (0, 15), (73, 0), (73, 1), (73, 2), (73, 3), (73, 4), (73, 5), (73, 6), (73, 7), (73, 10), (73, 11), (73, 12), (73, 14), (79, 1), (81, 1), (84, 0), (87, 0)]) (V := V0)), hT⟩ dX11_own_19
  · skip
    replace hT := hT.trans (if_neg c7)
    refine pm_iload_n hC 2 dX11_own_8 rfl ?_
    refine pm_if_lt (tgt := 17) hC ⟨by omega, by omega⟩ dX11_own_9 (by decide) (fun c8 => ?_) (fun c8 => ?_)
    · skip
      replace hT := hT.trans (if_pos c8)
      refine pm_ldc (v := (-2147483648)) hC 3153 dX11_own_17 (by decide +kernel) ?_
      exact pm_iret hC hR pm_nar0 ⟨(-2147483648), rfl, ⟨by omega, by omega⟩, hV0, (pm_ff.rf (cs := [74, 75, 76, 77, 80, 82, 85, 86, 88, 89]) (fs := [(0, 12), (0, 13), (0, 14), (0, 15), (73, 0), (73, 1), (73, 2), (73, 3), (73, 4), (73, 5), (73, 6), (73, 7), (73, 10), (73, 11), (73, 12), (73, 14), (79, 1), (81, 1), (84, 0), (87, 0)]) (V := V0)), hT⟩ dX11_own_19
    · skip
      replace hT := hT.trans (if_neg (Int.not_lt.mpr c8))
      refine pm_iload_n hC 2 dX11_own_12 rfl ?_
      refine pm_iconst (v := 2) hC dX11_own_13 ?_
      refine pm_icmp_le (tgt := 20) hC ⟨by omega, by omega⟩ ⟨by decide, by decide⟩ dX11_own_14 (by decide) (fun c9 => ?_) (fun c9 => ?_)
      · skip
        replace hT := hT.trans (if_pos c9)
        refine pm_iload_n hC 2 dX11_own_20 rfl ?_
        refine pm_iconst (v := 2) hC dX11_own_21 ?_
        refine pm_icmp_ne (tgt := 31) hC ⟨by omega, by omega⟩ ⟨by decide, by decide⟩ dX11_own_22 (by decide) (fun c10 => ?_) (fun c10 => ?_)
        · skip
          replace hT := hT.trans (if_pos c10)
          refine pm_aload_n hC 0 (by decide) dX11_own_31 rfl ?_
          refine pm_iload_n hC 1 dX11_own_32 rfl ?_
          refine pm_callV (ci := 11) (as := [(0, a1)]) (st := []) hC 0 (fD_X11_findOwnSpans_0 a1 ⟨by omega, by omega⟩) lm_X11_282 li_X11_findOwnSpans (by decide) (by decide) rfl rfl rfl (by decide) rfl rfl (Nat.le_of_ble_eq_true rfl) ⟨Nat.le_refl _, Or.inl rfl⟩ dX11_own_33 ⟨rfl, hV0⟩ (fun r11 V12 hp13 => ?_)
          obtain ⟨rfl, hV14, hF15, hE16⟩ := hp13
          replace hT := hT.trans (pf_call_eq hE16)
          change pm_J X 36 [(0, (3, 0)), (1, (0, a1)), (2, (0, a2))] [] 118 V12
          have hF17 := pm_ff.tr (pm_ff.rf (cs := [74, 75, 76, 77, 80, 82, 85, 86, 88, 89]) (fs := [(0, 12), (0, 13), (0, 14), (0, 15), (73, 0), (73, 1), (73, 2), (73, 3), (73, 4), (73, 5), (73, 6), (73, 7), (73, 10), (73, 11), (73, 12), (73, 14), (79, 1), (81, 1), (84, 0), (87, 0)]) (V := V0)) hF15 (by decide) (by decide)
          refine pm_iload_n hC 2 dX11_own_36 rfl ?_
          refine pm_if_ne (tgt := 47) hC ⟨by omega, by omega⟩ dX11_own_37 (by decide) (fun c18 => ?_) (fun c18 => ?_)
          · skip
            replace hT := hT.trans (if_pos c18)
            refine pm_aload_n hC 0 (by decide) dX11_own_47 rfl ?_
            obtain ⟨y19, e20⟩ : ∃ y, V12 0 15 = y := ⟨_, rfl⟩
            have b21 := hV14.get 0 15 (lo := (-2147483648)) (hi := 2147483647) (by decide) (by decide) rfl
            rw [e20] at b21
            replace hT := hT.trans (pf_let_eq e20)
            refine pm_getf (v := y19) hC 0 fl_X11_104 rfl rfl (by decide) rfl e20 dX11_own_48 ?_
            exact pm_iret hC hR pm_nar0 ⟨y19, rfl, ⟨by omega, by omega⟩, hV14, hF17, hT⟩ dX11_own_51
          · skip
            replace hT := hT.trans (if_neg (fun q => q c18))
            refine pm_aload_n hC 0 (by decide) dX11_own_40 rfl ?_
            obtain ⟨y22, e23⟩ : ∃ y, V12 0 14 = y := ⟨_, rfl⟩
            have b24 := hV14.get 0 14 (lo := (-2147483648)) (hi := 2147483647) (by decide) (by decide) rfl
            rw [e23] at b24
            replace hT := hT.trans (pf_let_eq e23)
            refine pm_getf (v := y22) hC 0 fl_X11_100 rfl rfl (by decide) rfl e23 dX11_own_41 ?_
            refine pm_goto (tgt := 51) hC dX11_own_44 (by decide) ?_
            exact pm_iret hC hR pm_nar0 ⟨y22, rfl, ⟨by omega, by omega⟩, hV14, hF17, hT⟩ dX11_own_51
        · skip
          replace hT := hT.trans (if_neg (fun q => q c10))
          refine pm_aload_n hC 0 (by decide) dX11_own_25 rfl ?_
          refine pm_iload_n hC 1 dX11_own_26 rfl ?_
          refine pm_callV (ci := 11) (as := [(0, a1)]) (st := []) hC 0 (fD_X11_findOwnOdds_0 a1 ⟨by omega, by omega⟩) lm_X11_279 li_X11_findOwnOdds (by decide) (by decide) rfl rfl rfl (by decide) rfl rfl (Nat.le_of_ble_eq_true rfl) ⟨Nat.le_refl _, Or.inl rfl⟩ dX11_own_27 ⟨rfl, hV0⟩ (fun r25 V26 hp27 => ?_)
          obtain ⟨y28, rfl, b29, hV30, hF31, hE32⟩ := hp27
          replace hT := hT.trans (pf_call_eq hE32)
          change pm_J X 30 [(0, (3, 0)), (1, (0, a1)), (2, (0, a2))] [(0, y28)] 118 V26
          have hF33 := pm_ff.tr (pm_ff.rf (cs := [74, 75, 76, 77, 80, 82, 85, 86, 88, 89]) (fs := [(0, 12), (0, 13), (0, 14), (0, 15), (73, 0), (73, 1), (73, 2), (73, 3), (73, 4), (73, 5), (73, 6), (73, 7), (73, 10), (73, 11), (73, 12), (73, 14), (79, 1), (81, 1), (84, 0), (87, 0)]) (V := V0)) hF31 (by decide) (by decide)
          exact pm_iret hC hR pm_nar0 ⟨y28, rfl, ⟨by omega, by omega⟩, hV30, hF33, hT⟩ dX11_own_30
      · skip
        replace hT := hT.trans (if_neg (Int.not_le.mpr c9))
        refine pm_ldc (v := (-2147483648)) hC 3153 dX11_own_17 (by decide +kernel) ?_
        exact pm_iret hC hR pm_nar0 ⟨(-2147483648), rfl, ⟨by omega, by omega⟩, hV0, (pm_ff.rf (cs := [74, 75, 76, 77, 80, 82, 85, 86, 88, 89]) (fs := [(0, 12), (0, 13), (0, 14), (0, 15), (73, 0), (73, 1), (73, 2), (73, 3), (73, 4), (73, 5), (73, 6), (73, 7), (73, 10), (73, 11), (73, 12), (73, 14), (79, 1), (81, 1), (84, 0), (87, 0)]) (V := V0)), hT⟩ dX11_own_19
