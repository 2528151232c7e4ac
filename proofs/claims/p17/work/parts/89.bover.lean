noncomputable def F_X12_share (a1 a2 : Int) (V0 : pm_M) : Int × pm_M := pf_call (F_X12_in a1 (-1) 3 V0) fun y4 _ => (if y4 = 0 then (((-1), V0)) else (pf_call (F_X12_in a2 0 4 V0) fun y11 _ => (if ¬ (y11 = 0) then (pf_val ((0 : Int), V0) (fun (q : Int × Int × Int × pm_M) => match q with | (x15, x17, x19, V23) => (pf_let (V23 90 25) fun y35 => (if y35 ≤ x19 then ((if ¬ (x15 = 0) then (pf_let (((1000 * x17) / x15)) fun y40 => (.inr (y40, V23))) else ((.inr ((-1), V23))))) else (pf_call (F_X12_isOf x19 a1 V23) fun y45 _ => (if ¬ (y45 = 0) then (pf_let (x15 + 1) fun x49 => pf_call (F_X12_worksAnswer x19 V23) fun _ V52 => pf_let (V52 90 42) fun z65 => pf_let (V52 90 43) fun z67 => (if ¬ (a2 = 4) then (pf_let (V52 101 (((5 * x19) + 3) : Int).toNat) fun y71 => pf_call (F_X12_kindOf y71 V52) fun y77 _ => (if ¬ (y77 = a2) then (pf_let (x19 + 1) fun x81 => (.inl (x49, (x17 + 0), x81, V52))) else (pf_let (x19 + 1) fun x83 => (.inl (x49, (x17 + 1), x83, V52))))) else (pf_let (V52 101 (((5 * x19) + 4) : Int).toNat) fun y86 => (if ¬ (y86 = 1) then (pf_let (x19 + 1) fun x90 => (.inl (x49, (x17 + 0), x90, V52))) else (pf_let (x19 + 1) fun x92 => (.inl (x49, (x17 + 1), x92, V52))))))) else (pf_let (x19 + 1) fun x94 => (.inl (x15, x17, x94, V23)))))))) (0, 0, 0, V0)) else (((-1), V0)))))
theorem F_X12_share_eq (a1 a2 : Int) (V0 : pm_M) : F_X12_share a1 a2 V0 = pf_call (F_X12_in a1 (-1) 3 V0) fun y4 _ => (if y4 = 0 then (((-1), V0)) else (pf_call (F_X12_in a2 0 4 V0) fun y11 _ => (if ¬ (y11 = 0) then (pf_val ((0 : Int), V0) (fun (q : Int × Int × Int × pm_M) => match q with | (x15, x17, x19, V23) => (pf_let (V23 90 25) fun y35 => (if y35 ≤ x19 then ((if ¬ (x15 = 0) then (pf_let (((1000 * x17) / x15)) fun y40 => (.inr (y40, V23))) else ((.inr ((-1), V23))))) else (pf_call (F_X12_isOf x19 a1 V23) fun y45 _ => (if ¬ (y45 = 0) then (pf_let (x15 + 1) fun x49 => pf_call (F_X12_worksAnswer x19 V23) fun _ V52 => pf_let (V52 90 42) fun z65 => pf_let (V52 90 43) fun z67 => (if ¬ (a2 = 4) then (pf_let (V52 101 (((5 * x19) + 3) : Int).toNat) fun y71 => pf_call (F_X12_kindOf y71 V52) fun y77 _ => (if ¬ (y77 = a2) then (pf_let (x19 + 1) fun x81 => (.inl (x49, (x17 + 0), x81, V52))) else (pf_let (x19 + 1) fun x83 => (.inl (x49, (x17 + 1), x83, V52))))) else (pf_let (V52 101 (((5 * x19) + 4) : Int).toNat) fun y86 => (if ¬ (y86 = 1) then (pf_let (x19 + 1) fun x90 => (.inl (x49, (x17 + 0), x90, V52))) else (pf_let (x19 + 1) fun x92 => (.inl (x49, (x17 + 1), x92, V52))))))) else (pf_let (x19 + 1) fun x94 => (.inl (x15, x17, x94, V23)))))))) (0, 0, 0, V0)) else (((-1), V0))))) := rfl
noncomputable def F_X12_foretold (a1 a2 a3 : Int) (V0 : pm_M) : Int × pm_M := pf_call (F_X12_isLaw a1 V0) fun y4 _ => (if y4 = 0 then (((-1), V0)) else (pf_call (F_X12_in a2 (-1) 3 V0) fun y11 _ => (if y11 = 0 then (((-1), V0)) else (pf_call (F_X12_in a3 0 4 V0) fun y18 _ => (if ¬ (y18 = 0) then (pf_val ((0 : Int), V0) (fun (q : Int × Int × Int × pm_M) => match q with | (x22, x24, x26, V29) => (pf_let (V29 90 25) fun y42 => (if y42 ≤ x26 then ((if ¬ (x22 = 0) then (pf_let (pm_w32 (Int.tdiv x24 x22)) fun y47 => (.inr (y47, V29))) else ((.inr ((-1), V29))))) else (pf_call (F_X12_isOf x26 a2 V29) fun y53 _ => (if ¬ (y53 = 0) then (pf_let (x22 + 1) fun x57 => pf_call (F_X12_worksAnswer x26 V29) fun _ V60 => pf_let (V60 90 42) fun z74 => pf_let (V60 90 43) fun z76 => pf_call (F_X12_weighs a1 V60) fun _ V79 => (if ¬ (a3 = 4) then (pf_call (F_X12_chanceOfKind a3 V79) fun y100 _ => pf_let (pm_w32 (x24 + y100)) fun y103 => pf_let (x26 + 1) fun x106 => (.inl (x57, y103, x106, V79))) else (pf_call (F_X12_noticedNow  V79) fun y111 _ => pf_let (pm_w32 (x24 + y111)) fun y114 => pf_let (x26 + 1) fun x117 => (.inl (x57, y114, x117, V79))))) else (pf_let (x26 + 1) fun x119 => (.inl (x22, x24, x119, V29)))))))) (0, 0, 0, V0)) else (((-1), V0)))))))
theorem F_X12_foretold_eq (a1 a2 a3 : Int) (V0 : pm_M) : F_X12_foretold a1 a2 a3 V0 = pf_call (F_X12_isLaw a1 V0) fun y4 _ => (if y4 = 0 then (((-1), V0)) else (pf_call (F_X12_in a2 (-1) 3 V0) fun y11 _ => (if y11 = 0 then (((-1), V0)) else (pf_call (F_X12_in a3 0 4 V0) fun y18 _ => (if ¬ (y18 = 0) then (pf_val ((0 : Int), V0) (fun (q : Int × Int × Int × pm_M) => match q with | (x22, x24, x26, V29) => (pf_let (V29 90 25) fun y42 => (if y42 ≤ x26 then ((if ¬ (x22 = 0) then (pf_let (pm_w32 (Int.tdiv x24 x22)) fun y47 => (.inr (y47, V29))) else ((.inr ((-1), V29))))) else (pf_call (F_X12_isOf x26 a2 V29) fun y53 _ => (if ¬ (y53 = 0) then (pf_let (x22 + 1) fun x57 => pf_call (F_X12_worksAnswer x26 V29) fun _ V60 => pf_let (V60 90 42) fun z74 => pf_let (V60 90 43) fun z76 => pf_call (F_X12_weighs a1 V60) fun _ V79 => (if ¬ (a3 = 4) then (pf_call (F_X12_chanceOfKind a3 V79) fun y100 _ => pf_let (pm_w32 (x24 + y100)) fun y103 => pf_let (x26 + 1) fun x106 => (.inl (x57, y103, x106, V79))) else (pf_call (F_X12_noticedNow  V79) fun y111 _ => pf_let (pm_w32 (x24 + y111)) fun y114 => pf_let (x26 + 1) fun x117 => (.inl (x57, y114, x117, V79))))) else (pf_let (x26 + 1) fun x119 => (.inl (x22, x24, x119, V29)))))))) (0, 0, 0, V0)) else (((-1), V0))))))) := rfl
noncomputable def F_X12_pairs (a1 a2 a3 a4 a5 : Int) (V0 : pm_M) : Int × pm_M := pf_let (V0 90 16) fun y1 => (if a1 < 0 then (((-1), V0)) else ((if 3 < (a1 / 10) then (((-1), V0)) else (pf_call (F_X12_isLaw (a1 % 10) V0) fun y9 _ => (if y9 = 0 then (((-1), V0)) else (pf_call (F_X12_isPerson a2 V0) fun y16 _ => (if y16 = 0 then (((-1), V0)) else (pf_call (F_X12_isTrial (100 * a2) a3 a4 V0) fun y23 _ => (if ¬ (y23 = 0) then (pf_val ((0 : Int), V0) (fun (q : Int × Int × pm_M) => match q with | (x27, x29, V32) => ((if y1 ≤ x29 then ((if ¬ (a5 = (-1)) then ((.inr ((-1), V32))) else ((.inr (x27, V32))))) else (pf_val (.inr ((0 : Int), V0)) (fun (q : Int × Int × pm_M) => match q with | (x47, x49, V52) => ((if y1 ≤ x49 then (pf_let (x29 + 1) fun x66 => (.inr (.inl (x47, x66, V52)))) else ((if ¬ (x29 = x49) then (pf_call (F_X12_works (((100 * a2) + (10 * x29)) + x49) a3 a4 V52) fun _ V70 => pf_let (V70 90 42) fun z83 => pf_let (V70 90 43) fun z85 => pf_call (F_X12_weighs (a1 % 10) V70) fun _ V88 => pf_call (F_X12_likeliest  V88) fun y107 _ => pf_call (F_X12_kindOf y107 V88) fun y113 _ => (if y113 = (a1 / 10) then ((if ¬ (x47 = a5) then (pf_let (x47 + 1) fun x118 => pf_let (x49 + 1) fun x120 => (.inl (x118, x120, V88))) else ((.inr (.inr (((10 * x29) + x49), V88)))))) else (pf_let (x49 + 1) fun x122 => (.inl (x47, x122, V88))))) else (pf_let (x49 + 1) fun x124 => (.inl (x47, x124, V52)))))))) (x27, 0, V32))))) (0, 0, V0)) else (((-1), V0)))))))))))
theorem F_X12_pairs_eq (a1 a2 a3 a4 a5 : Int) (V0 : pm_M) : F_X12_pairs a1 a2 a3 a4 a5 V0 = pf_let (V0 90 16) fun y1 => (if a1 < 0 then (((-1), V0)) else ((if 3 < (a1 / 10) then (((-1), V0)) else (pf_call (F_X12_isLaw (a1 % 10) V0) fun y9 _ => (if y9 = 0 then (((-1), V0)) else (pf_call (F_X12_isPerson a2 V0) fun y16 _ => (if y16 = 0 then (((-1), V0)) else (pf_call (F_X12_isTrial (100 * a2) a3 a4 V0) fun y23 _ => (if ¬ (y23 = 0) then (pf_val ((0 : Int), V0) (fun (q : Int × Int × pm_M) => match q with | (x27, x29, V32) => ((if y1 ≤ x29 then ((if ¬ (a5 = (-1)) then ((.inr ((-1), V32))) else ((.inr (x27, V32))))) else (pf_val (.inr ((0 : Int), V0)) (fun (q : Int × Int × pm_M) => match q with | (x47, x49, V52) => ((if y1 ≤ x49 then (pf_let (x29 + 1) fun x66 => (.inr (.inl (x47, x66, V52)))) else ((if ¬ (x29 = x49) then (pf_call (F_X12_works (((100 * a2) + (10 * x29)) + x49) a3 a4 V52) fun _ V70 => pf_let (V70 90 42) fun z83 => pf_let (V70 90 43) fun z85 => pf_call (F_X12_weighs (a1 % 10) V70) fun _ V88 => pf_call (F_X12_likeliest  V88) fun y107 _ => pf_call (F_X12_kindOf y107 V88) fun y113 _ => (if y113 = (a1 / 10) then ((if ¬ (x47 = a5) then (pf_let (x47 + 1) fun x118 => pf_let (x49 + 1) fun x120 => (.inl (x118, x120, V88))) else ((.inr (.inr (((10 * x29) + x49), V88)))))) else (pf_let (x49 + 1) fun x122 => (.inl (x47, x122, V88))))) else (pf_let (x49 + 1) fun x124 => (.inl (x47, x124, V52)))))))) (x27, 0, V32))))) (0, 0, V0)) else (((-1), V0))))))))))) := rfl
noncomputable def F_X12_third (a1 a2 a3 : Int) (V0 : pm_M) : Int × pm_M := pf_let (V0 90 16) fun y1 => pf_call (F_X12_works a1 a2 a3 V0) fun _ V5 => pf_let (V5 90 42) fun z18 => pf_let (V5 90 43) fun z20 => pf_call (F_X12_weighs 4 V5) fun _ V23 => pf_call (F_X12_chanceOfKind 3 V23) fun y42 _ => (y42, V23)
theorem F_X12_third_eq (a1 a2 a3 : Int) (V0 : pm_M) : F_X12_third a1 a2 a3 V0 = pf_let (V0 90 16) fun y1 => pf_call (F_X12_works a1 a2 a3 V0) fun _ V5 => pf_let (V5 90 42) fun z18 => pf_let (V5 90 43) fun z20 => pf_call (F_X12_weighs 4 V5) fun _ V23 => pf_call (F_X12_chanceOfKind 3 V23) fun y42 _ => (y42, V23) := rfl
noncomputable def F_X12_hump (a1 a2 a3 : Int) (V0 : pm_M) : Int × pm_M := pf_let (V0 90 16) fun y1 => pf_call (F_X12_isTrial a1 a2 0 V0) fun y7 _ => (if y7 = 0 then (((-1), V0)) else (pf_call (F_X12_in a3 0 1 V0) fun y14 _ => (if ¬ (y14 = 0) then (pf_call (F_X12_third a1 a2 0 V0) fun y21 V19 => (if ¬ (y21 = 0) then (pf_val ((0 : Int), V0) (fun (q : Int × pm_M) => match q with | (x31, V33) => ((if 99 ≤ x31 then ((.inr (x31, V33))) else ((if ¬ (a3 = 0) then (pf_call (F_X12_third a1 a2 ((-x31) - 1) V33) fun y51 V49 => pf_let (pm_w32 (2 * y51)) fun y60 => (if y60 < y21 then ((.inr (x31, V49))) else (pf_let (x31 + 1) fun x64 => (.inl (x64, V49))))) else (pf_call (F_X12_third a1 a2 (x31 + 1) V33) fun y69 V67 => pf_let (pm_w32 (2 * y69)) fun y78 => (if y78 < y21 then ((.inr (x31, V67))) else (pf_let (x31 + 1) fun x82 => (.inl (x82, V67)))))))))) (0, V19)) else (((-1), V19)))) else (((-1), V0)))))
theorem F_X12_hump_eq (a1 a2 a3 : Int) (V0 : pm_M) : F_X12_hump a1 a2 a3 V0 = pf_let (V0 90 16) fun y1 => pf_call (F_X12_isTrial a1 a2 0 V0) fun y7 _ => (if y7 = 0 then (((-1), V0)) else (pf_call (F_X12_in a3 0 1 V0) fun y14 _ => (if ¬ (y14 = 0) then (pf_call (F_X12_third a1 a2 0 V0) fun y21 V19 => (if ¬ (y21 = 0) then (pf_val ((0 : Int), V0) (fun (q : Int × pm_M) => match q with | (x31, V33) => ((if 99 ≤ x31 then ((.inr (x31, V33))) else ((if ¬ (a3 = 0) then (pf_call (F_X12_third a1 a2 ((-x31) - 1) V33) fun y51 V49 => pf_let (pm_w32 (2 * y51)) fun y60 => (if y60 < y21 then ((.inr (x31, V49))) else (pf_let (x31 + 1) fun x64 => (.inl (x64, V49))))) else (pf_call (F_X12_third a1 a2 (x31 + 1) V33) fun y69 V67 => pf_let (pm_w32 (2 * y69)) fun y78 => (if y78 < y21 then ((.inr (x31, V67))) else (pf_let (x31 + 1) fun x82 => (.inl (x82, V67)))))))))) (0, V19)) else (((-1), V19)))) else (((-1), V0))))) := rfl
noncomputable def F_X12_rightOf (a1 a2 a3 : Int) (V0 : pm_M) : Int × pm_M := pf_let (V0 90 16) fun y1 => pf_val ((0 : Int), V0) (fun (q : Int × Int × pm_M) => match q with | (x4, x6, V8) => ((if y1 ≤ x6 then ((.inr (x4, V8))) else (pf_call (F_X12_works ((100 * a2) + (11 * x6)) a3 0 V8) fun _ V23 => pf_let (V23 90 42) fun z36 => pf_let (V23 90 43) fun z38 => pf_call (F_X12_weighs a1 V23) fun _ V41 => pf_call (F_X12_chanceOf x6 V41) fun y60 _ => pf_let (pm_w32 (x4 + y60)) fun y63 => pf_let (x6 + 1) fun x66 => (.inl (y63, x66, V41)))))) (0, 0, V0)
theorem F_X12_rightOf_eq (a1 a2 a3 : Int) (V0 : pm_M) : F_X12_rightOf a1 a2 a3 V0 = pf_let (V0 90 16) fun y1 => pf_val ((0 : Int), V0) (fun (q : Int × Int × pm_M) => match q with | (x4, x6, V8) => ((if y1 ≤ x6 then ((.inr (x4, V8))) else (pf_call (F_X12_works ((100 * a2) + (11 * x6)) a3 0 V8) fun _ V23 => pf_let (V23 90 42) fun z36 => pf_let (V23 90 43) fun z38 => pf_call (F_X12_weighs a1 V23) fun _ V41 => pf_call (F_X12_chanceOf x6 V41) fun y60 _ => pf_let (pm_w32 (x4 + y60)) fun y63 => pf_let (x6 + 1) fun x66 => (.inl (y63, x66, V41)))))) (0, 0, V0) := rfl
noncomputable def F_X12_right (a1 a2 a3 : Int) (V0 : pm_M) : Int × pm_M := pf_call (F_X12_canBe a1 a2 a3 V0) fun y4 _ => (if y4 = 0 then (((-1), V0)) else (pf_call (F_X12_rightOf a1 a2 a3 V0) fun y11 V9 => (y11, V9)))
theorem F_X12_right_eq (a1 a2 a3 : Int) (V0 : pm_M) : F_X12_right a1 a2 a3 V0 = pf_call (F_X12_canBe a1 a2 a3 V0) fun y4 _ => (if y4 = 0 then (((-1), V0)) else (pf_call (F_X12_rightOf a1 a2 a3 V0) fun y11 V9 => (y11, V9))) := rfl
noncomputable def F_X12_worth (a1 a2 a3 : Int) (V0 : pm_M) : Int × pm_M := pf_call (F_X12_canBe a1 a2 a3 V0) fun y4 _ => (if ¬ (y4 = 0) then (pf_call (F_X12_rightOf a1 a2 a3 V0) fun y11 V9 => pf_val ((0 : Int), V0) (fun (q : Int × pm_M) => match q with | (x19, V21) => ((if x19 < 0 then ((if 0 ≤ x19 then ((.inr ((0 : Int), V0))) else ((.inr ((-1), V21))))) else (pf_call (F_X12_rightOf 0 a2 ((10 * x19) + (a3 % 10)) V21) fun y38 V36 => (if y11 ≤ y38 then ((if 0 ≤ x19 then ((.inr (((a3 / 10) - x19), V36))) else ((.inr ((0 : Int), V0))))) else (pf_let (x19 + (-1)) fun x48 => (.inl (x48, V36)))))))) ((a3 / 10), V9)) else (((-1), V0)))
theorem F_X12_worth_eq (a1 a2 a3 : Int) (V0 : pm_M) : F_X12_worth a1 a2 a3 V0 = pf_call (F_X12_canBe a1 a2 a3 V0) fun y4 _ => (if ¬ (y4 = 0) then (pf_call (F_X12_rightOf a1 a2 a3 V0) fun y11 V9 => pf_val ((0 : Int), V0) (fun (q : Int × pm_M) => match q with | (x19, V21) => ((if x19 < 0 then ((if 0 ≤ x19 then ((.inr ((0 : Int), V0))) else ((.inr ((-1), V21))))) else (pf_call (F_X12_rightOf 0 a2 ((10 * x19) + (a3 % 10)) V21) fun y38 V36 => (if y11 ≤ y38 then ((if 0 ≤ x19 then ((.inr (((a3 / 10) - x19), V36))) else ((.inr ((0 : Int), V0))))) else (pf_let (x19 + (-1)) fun x48 => (.inl (x48, V36)))))))) ((a3 / 10), V9)) else (((-1), V0))) := rfl
set_option maxHeartbeats 4000000 in
set_option maxRecDepth 100000 in
theorem fB_X12_share (a1 a2 : Int) (h0 : (-2147483648) ≤ a1 ∧ a1 ≤ 2147483647) (h1 : (-2147483648) ≤ a2 ∧ a2 ≤ 2147483647) : pm_K 4 yX12_share cX12_share 6 (some .int) (fun av V => av = [(3, 90), (0, a1), (0, a2)] ∧ pm_oq pm_qB V ∧ pm_h1 V ∧ pm_h3 V) (fun _ V r V' => ∃ y, r = some (0, y) ∧ ((-1) ≤ y ∧ y ≤ 60000) ∧ pm_oq pm_qB V' ∧ pm_fs [110, 111] [42, 43, 44, 45, 46, 47, 48, 49] V V' ∧ F_X12_share a1 a2 V = (y, V')) := by
  refine pm_MT.of (by decide) ⟨Nat.le_refl _, by decide⟩ (fun av V h => by rw [h.1]; exact (by decide : pm_words [(3, 0), (0, 0), (0, 0)] ≤ 6)) ?_
  rintro X av V0 hC - hR ⟨rfl, hV0, hn_pm_h1, hn_pm_h3⟩
  change pm_J X 0 [(0, (3, 90)), (1, (0, a1)), (2, (0, a2))] [] 118 V0
  have hT := F_X12_share_eq a1 a2 V0
  refine pm_iload_n hC 1 dX12_share_0 rfl ?_
  refine pm_iconst (v := (-1)) hC dX12_share_1 ?_
  refine pm_iconst (v := 3) hC dX12_share_2 ?_
  refine pm_callS (as := [(0, a1), (0, (-1)), (0, 3)]) (st := []) hC (fB_X12_in a1 (-1) 3 ⟨by omega, by omega⟩ ⟨by decide, by decide⟩ ⟨by decide, by decide⟩) lm_X12_98 ls_X12_in (by decide) (by decide) rfl rfl (Nat.le_of_ble_eq_true rfl) ⟨Nat.le_refl _, Or.inl rfl⟩ dX12_share_3 ⟨rfl, hV0⟩ (fun r1 V2 hp3 => ?_)
  obtain ⟨y4, rfl, b5, rfl, hE6⟩ := hp3
  replace hT := hT.trans (pf_call_eq hE6)
  change pm_J X 6 [(0, (3, 90)), (1, (0, a1)), (2, (0, a2))] [(0, y4)] 118 V0
  refine pm_if_eq (tgt := 18) hC ⟨by omega, by omega⟩ dX12_share_6 (by decide) (fun c7 => ?_) (fun c7 => ?_)
  · skip
    replace hT := hT.trans (if_pos c7)
    refine pm_iconst (v := (-1)) hC dX12_share_18 ?_
    exact pm_iret hC hR pm_nar0 ⟨(-1), rfl, ⟨by omega, by omega⟩, hV0, (pm_fs.rf (cs := [110, 111]) (fs := [42, 43, 44, 45, 46, 47, 48, 49]) (V := V0)), hT⟩ dX12_share_19
  · skip
    replace hT := hT.trans (if_neg c7)
    refine pm_iload_n hC 2 dX12_share_9 rfl ?_
    refine pm_iconst (v := 0) hC dX12_share_10 ?_
    refine pm_iconst (v := 4) hC dX12_share_11 ?_
    refine pm_callS (as := [(0, a2), (0, 0), (0, 4)]) (st := []) hC (fB_X12_in a2 0 4 ⟨by omega, by omega⟩ ⟨by decide, by decide⟩ ⟨by decide, by decide⟩) lm_X12_98 ls_X12_in (by decide) (by decide) rfl rfl (Nat.le_of_ble_eq_true rfl) ⟨Nat.le_refl _, Or.inl rfl⟩ dX12_share_12 ⟨rfl, hV0⟩ (fun r8 V9 hp10 => ?_)
    obtain ⟨y11, rfl, b12, rfl, hE13⟩ := hp10
    replace hT := hT.trans (pf_call_eq hE13)
    change pm_J X 15 [(0, (3, 90)), (1, (0, a1)), (2, (0, a2))] [(0, y11)] 118 V0
    refine pm_if_ne (tgt := 20) hC ⟨by omega, by omega⟩ dX12_share_15 (by decide) (fun c14 => ?_) (fun c14 => ?_)
    · skip
      replace hT := hT.trans (if_pos c14)
      refine pm_iconst (v := 0) hC dX12_share_20 ?_
      refine pm_istore_n (lv' := [(3, (0, 0)), (0, (3, 90)), (1, (0, a1)), (2, (0, a2))]) hC dX12_share_21 (by decide) rfl ?_
      refine pm_iconst (v := 0) hC dX12_share_22 ?_
      refine pm_istore (lv' := [(4, (0, 0)), (3, (0, 0)), (0, (3, 90)), (1, (0, a1)), (2, (0, a2))]) hC dX12_share_23 (by decide) rfl ?_
      refine pm_iconst (v := 0) hC dX12_share_25 ?_
      refine pm_istore (lv' := [(5, (0, 0)), (4, (0, 0)), (3, (0, 0)), (0, (3, 90)), (1, (0, a1)), (2, (0, a2))]) hC dX12_share_26 (by decide) rfl ?_
      obtain ⟨B28, hB29, hT⟩ := pf_loop hT
      have L31 : ∀ (N33 : Nat) (x15 : Int) (x17 : Int) (x19 : Int) (V23 : pm_M), (0 ≤ x15 ∧ x15 ≤ 60) → (0 ≤ x17 ∧ x17 ≤ 60) → (0 ≤ x19 ∧ x19 ≤ 60) → (x15 ≤ x19) → (x17 ≤ x19) → pm_oq pm_qB V23 → pm_fs [110, 111] [42, 43, 44, 45, 46, 47, 48, 49] V0 V23 → pm_h1 V23 → pm_h3 V23 → F_X12_share a1 a2 V0 = pf_val ((0 : Int), V0) B28 (x15, x17, x19, V23) → (Int.toNat (60 - x19)) = N33 → pm_J X 28 [(0, (3, 90)), (1, (0, a1)), (2, (0, a2)), (3, (0, x15)), (4, (0, x17)), (5, (0, x19))] [] 118 V23 := by
        intro N33
        induction N33 using Nat.strongRecOn with
        | _ N33 ih34 =>
        intro x15 x17 x19 V23 b16 b18 b20 b21 b22 hV24 hF25 hp26 hp27 hT hm32
        have hb30 := congrFun hB29 (x15, x17, x19, V23)
        refine pm_iload hC 5 dX12_share_28 rfl ?_
        refine pm_aload_n hC 0 (by decide) dX12_share_30 rfl ?_
        obtain ⟨y35, e36⟩ : ∃ y, V23 90 25 = y := ⟨_, rfl⟩
        have b37 := hV24.get 90 25 (lo := 0) (hi := 60) (by decide) (by decide) rfl
        rw [e36] at b37
        replace hb30 := hb30.trans (pf_let_eq e36)
        refine pm_getf (v := y35) hC 90 fl_X12_235 rfl rfl (by decide) rfl e36 dX12_share_31 ?_
        refine pm_icmp_ge (tgt := 117) hC ⟨by omega, by omega⟩ ⟨by omega, by omega⟩ dX12_share_34 (by decide) (fun c38 => ?_) (fun c38 => ?_)
        · skip
          replace hb30 := hb30.trans (if_pos c38)
          refine pm_iload_n hC 3 dX12_share_117 rfl ?_
          refine pm_if_ne (tgt := 125) hC ⟨by omega, by omega⟩ dX12_share_118 (by decide) (fun c39 => ?_) (fun c39 => ?_)
          · skip
            replace hb30 := hb30.trans (if_pos c39)
            refine pm_sipush (v := 1000) hC dX12_share_125 (by decide) ?_
            refine pm_iload hC 4 dX12_share_128 rfl ?_
            refine pm_imul hC dX12_share_130 ?_
            refine pm_iload_n hC 3 dX12_share_131 rfl ?_
            refine pm_idiv hC ⟨by omega, by omega, by omega⟩ ⟨by omega, by omega, by omega⟩ dX12_share_132 ?_
            have b41 := pm_divb (x := (1000 * x17)) (y := x15) (by omega) (by omega)
            obtain ⟨y40, hey40⟩ : ∃ z, ((1000 * x17) / x15) = z := ⟨_, rfl⟩
            rw [hey40] at b41 ⊢
            replace hb30 := hb30.trans (pf_let_eq hey40)
            have hT := hT.trans (pf_val_inr hb30)
            exact pm_iret hC hR pm_nar0 ⟨y40, rfl, ⟨by omega, by omega⟩, hV24, hF25, hT⟩ dX12_share_133
          · skip
            replace hb30 := hb30.trans (if_neg (fun q => q c39))
            refine pm_iconst (v := (-1)) hC dX12_share_121 ?_
            refine pm_goto (tgt := 133) hC dX12_share_122 (by decide) ?_
            have hT := hT.trans (pf_val_inr hb30)
            exact pm_iret hC hR pm_nar0 ⟨(-1), rfl, ⟨by omega, by omega⟩, hV24, hF25, hT⟩ dX12_share_133
        · skip
          replace hb30 := hb30.trans (if_neg (Int.not_le.mpr c38))
          refine pm_aload_n hC 0 (by decide) dX12_share_37 rfl ?_
          refine pm_iload hC 5 dX12_share_38 rfl ?_
          refine pm_iload_n hC 1 dX12_share_40 rfl ?_
          refine pm_callV (ci := 12) (as := [(0, x19), (0, a1)]) (st := []) hC 90 (fB_X12_isOf x19 a1 ⟨by omega, by omega⟩ ⟨by omega, by omega⟩) lm_X12_433 li_X12_isOf (by decide) (by decide) rfl rfl rfl (by decide) rfl rfl (Nat.le_of_ble_eq_true rfl) ⟨Nat.le_refl _, Or.inl rfl⟩ dX12_share_41 ⟨rfl, hV24⟩ (fun r42 V43 hp44 => ?_)
          obtain ⟨y45, rfl, b46, rfl, hE47⟩ := hp44
          replace hb30 := hb30.trans (pf_call_eq hE47)
          change pm_J X 44 [(0, (3, 90)), (1, (0, a1)), (2, (0, a2)), (3, (0, x15)), (4, (0, x17)), (5, (0, x19))] [(0, y45)] 118 V23
          refine pm_if_ne (tgt := 50) hC ⟨by omega, by omega⟩ dX12_share_44 (by decide) (fun c48 => ?_) (fun c48 => ?_)
          · skip
            replace hb30 := hb30.trans (if_pos c48)
            obtain ⟨x49, ei50⟩ : ∃ y : Int, x15 + 1 = y := ⟨_, rfl⟩
            replace hb30 := hb30.trans (pf_let_eq ei50)
            refine pm_iinc (y := x49) (lv' := [(3, (0, x49)), (0, (3, 90)), (1, (0, a1)), (2, (0, a2)), (4, (0, x17)), (5, (0, x19))]) hC 3 dX12_share_50 (by decide) rfl ei50 rfl ?_
            refine pm_aload_n hC 1 (by decide) dX12_share_53 rfl ?_
            refine pm_iload hC 5 dX12_share_54 rfl ?_
            refine pm_callV (ci := 12) (as := [(0, x19)]) (st := []) hC 90 (fB_X12_worksAnswer x19 ⟨by omega, by omega⟩) lm_X12_403 li_X12_worksAnswer (by decide) (by decide) rfl rfl rfl (by decide) rfl rfl (Nat.le_of_ble_eq_true rfl) ⟨Nat.le_refl _, Or.inl rfl⟩ dX12_share_56 ⟨rfl, hV24, (show (x19) < V23 90 25 by omega), hp26, hp27⟩ (fun r51 V52 hp53 => ?_)
            obtain ⟨rfl, hV54, hF55, hq56, hq57, hg58, hg59, hE60⟩ := hp53
            replace hb30 := hb30.trans (pf_call_eq hE60)
            change pm_J X 59 [(3, (0, x49)), (0, (3, 90)), (1, (0, a1)), (2, (0, a2)), (4, (0, x17)), (5, (0, x19))] [] 118 V52
            have hF61 := pm_fs.tr hF25 hF55 (by decide) (by decide)
            have e62 : V52 90 25 = y35 := by rw [hF55.2 25 (by decide)]; exact e36
            have hp63 : pm_h1 V52 := (pm_h1.fr hp26 (hF55.2 16 (by decide)) (hF55.1 97 (by decide) (by decide)))
            have hp64 : pm_h3 V52 := (pm_h3.fr hp27 (hF55.2 16 (by decide)) (hF55.2 25 (by decide)) (hF55.1 101 (by decide) (by decide)))
            obtain ⟨z65, ez66⟩ : ∃ z, V52 90 42 = z := ⟨_, rfl⟩
            rw [ez66] at hq56
            replace hb30 := hb30.trans (pf_let_eq ez66)
            obtain ⟨z67, ez68⟩ : ∃ z, V52 90 43 = z := ⟨_, rfl⟩
            rw [ez68] at hq57
            replace hb30 := hb30.trans (pf_let_eq ez68)
            refine pm_iload hC 4 dX12_share_59 rfl ?_
            refine pm_iload_n hC 3 dX12_share_61 rfl ?_
            refine pm_iconst (v := 4) hC dX12_share_62 ?_
            refine pm_icmp_ne (tgt := 84) hC ⟨by omega, by omega⟩ ⟨by decide, by decide⟩ dX12_share_63 (by decide) (fun c69 => ?_) (fun c69 => ?_)
            · skip
              replace hb30 := hb30.trans (if_pos c69)
              refine pm_aload_n hC 1 (by decide) dX12_share_84 rfl ?_
              refine pm_aload_n hC 1 (by decide) dX12_share_85 rfl ?_
              have e70 : V52 90 26 = 101 := hV54.one 90 26 (by decide) (by decide) rfl
              refine pm_getf (v := 101) hC 90 fl_X12_43 rfl rfl (by decide) rfl e70 dX12_share_86 ?_
              refine pm_iconst (v := 5) hC dX12_share_89 ?_
              refine pm_iload hC 5 dX12_share_90 rfl ?_
              refine pm_imul hC dX12_share_92 ?_
              refine pm_iconst (v := 3) hC dX12_share_93 ?_
              refine pm_iadd hC dX12_share_94 ?_
              obtain ⟨y71, e72⟩ : ∃ y, V52 101 (((5 * x19) + 3) : Int).toNat = y := ⟨_, rfl⟩
              replace hb30 := hb30.trans (pf_let_eq e72)
              have b73 := hV54.get 101 (((5 * x19) + 3) : Int).toNat (lo := 0) (hi := 8) (t := 0) (by decide) (show _ < 300 by omega) ((pm_qe_r (tb := pm_qB) (k := 101) (i := (((5 * x19) + 3) : Int).toNat) (m := 5) (r := 3) (l := [(0, 999, 1), (0, 99, 0), (-99, 99, 0), (0, 8, 0), (0, 1, 0)]) rfl rfl (by omega)).trans rfl)
              rw [e72] at b73
              refine pm_iaload (len := 300) (v := y71) hC 101 rfl rfl (by decide) ⟨by omega, by omega⟩ (by decide) e72 dX12_share_95 ?_
              refine pm_callV (ci := 12) (as := [(0, y71)]) (st := [(0, x17)]) hC 90 (fB_X12_kindOf y71 ⟨by omega, by omega⟩) lm_X12_367 li_X12_kindOf (by decide) (by decide) rfl rfl rfl (by decide) rfl rfl (Nat.le_of_ble_eq_true rfl) ⟨Nat.le_refl _, Or.inl rfl⟩ dX12_share_96 ⟨rfl, hV54⟩ (fun r74 V75 hp76 => ?_)
              obtain ⟨y77, rfl, b78, rfl, hE79⟩ := hp76
              replace hb30 := hb30.trans (pf_call_eq hE79)
              change pm_J X 99 [(3, (0, x49)), (0, (3, 90)), (1, (0, a1)), (2, (0, a2)), (4, (0, x17)), (5, (0, x19))] [(0, y77), (0, x17)] 118 V52
              refine pm_iload_n hC 3 dX12_share_99 rfl ?_
              refine pm_icmp_ne (tgt := 107) hC ⟨by omega, by omega⟩ ⟨by omega, by omega⟩ dX12_share_100 (by decide) (fun c80 => ?_) (fun c80 => ?_)
              · skip
                replace hb30 := hb30.trans (if_pos c80)
                refine pm_iconst (v := 0) hC dX12_share_107 ?_
                refine pm_iadd hC dX12_share_108 ?_
                refine pm_istore (lv' := [(4, (0, (x17 + 0))), (3, (0, x49)), (0, (3, 90)), (1, (0, a1)), (2, (0, a2)), (5, (0, x19))]) hC dX12_share_109 (by decide) rfl ?_
                obtain ⟨x81, ei82⟩ : ∃ y : Int, x19 + 1 = y := ⟨_, rfl⟩
                replace hb30 := hb30.trans (pf_let_eq ei82)
                refine pm_iinc (y := x81) (lv' := [(5, (0, x81)), (4, (0, (x17 + 0))), (3, (0, x49)), (0, (3, 90)), (1, (0, a1)), (2, (0, a2))]) hC 5 dX12_share_111 (by decide) rfl ei82 rfl ?_
                refine pm_goto (tgt := 28) hC dX12_share_114 (by decide) ?_
                refine pm_lvsub [3, 4, 5, 2, 1, 0] (lv' := [(0, (3, 90)), (1, (0, a1)), (2, (0, a2)), (3, (0, x49)), (4, (0, (x17 + 0))), (5, (0, x81))]) rfl ?_
                exact ih34 _ (by omega) x49 (x17 + 0) x81 V52 ⟨by omega, by omega⟩ ⟨by omega, by omega⟩ ⟨by omega, by omega⟩ (by omega) (by omega) hV54 hF61 hp63 hp64 (hT.trans (pf_val_inl hb30)) rfl
              · skip
                replace hb30 := hb30.trans (if_neg (fun q => q c80))
                refine pm_iconst (v := 1) hC dX12_share_103 ?_
                refine pm_goto (tgt := 108) hC dX12_share_104 (by decide) ?_
                refine pm_iadd hC dX12_share_108 ?_
                refine pm_istore (lv' := [(4, (0, (x17 + 1))), (3, (0, x49)), (0, (3, 90)), (1, (0, a1)), (2, (0, a2)), (5, (0, x19))]) hC dX12_share_109 (by decide) rfl ?_
                obtain ⟨x83, ei84⟩ : ∃ y : Int, x19 + 1 = y := ⟨_, rfl⟩
                replace hb30 := hb30.trans (pf_let_eq ei84)
                refine pm_iinc (y := x83) (lv' := [(5, (0, x83)), (4, (0, (x17 + 1))), (3, (0, x49)), (0, (3, 90)), (1, (0, a1)), (2, (0, a2))]) hC 5 dX12_share_111 (by decide) rfl ei84 rfl ?_
                refine pm_goto (tgt := 28) hC dX12_share_114 (by decide) ?_
                refine pm_lvsub [3, 4, 5, 2, 1, 0] (lv' := [(0, (3, 90)), (1, (0, a1)), (2, (0, a2)), (3, (0, x49)), (4, (0, (x17 + 1))), (5, (0, x83))]) rfl ?_
                exact ih34 _ (by omega) x49 (x17 + 1) x83 V52 ⟨by omega, by omega⟩ ⟨by omega, by omega⟩ ⟨by omega, by omega⟩ (by omega) (by omega) hV54 hF61 hp63 hp64 (hT.trans (pf_val_inl hb30)) rfl
            · skip
              replace hb30 := hb30.trans (if_neg (fun q => q c69))
              refine pm_aload_n hC 1 (by decide) dX12_share_66 rfl ?_
              have e85 : V52 90 26 = 101 := hV54.one 90 26 (by decide) (by decide) rfl
              refine pm_getf (v := 101) hC 90 fl_X12_43 rfl rfl (by decide) rfl e85 dX12_share_67 ?_
              refine pm_iconst (v := 5) hC dX12_share_70 ?_
              refine pm_iload hC 5 dX12_share_71 rfl ?_
              refine pm_imul hC dX12_share_73 ?_
              refine pm_iconst (v := 4) hC dX12_share_74 ?_
              refine pm_iadd hC dX12_share_75 ?_
              obtain ⟨y86, e87⟩ : ∃ y, V52 101 (((5 * x19) + 4) : Int).toNat = y := ⟨_, rfl⟩
              replace hb30 := hb30.trans (pf_let_eq e87)
              have b88 := hV54.get 101 (((5 * x19) + 4) : Int).toNat (lo := 0) (hi := 1) (t := 0) (by decide) (show _ < 300 by omega) ((pm_qe_r (tb := pm_qB) (k := 101) (i := (((5 * x19) + 4) : Int).toNat) (m := 5) (r := 4) (l := [(0, 999, 1), (0, 99, 0), (-99, 99, 0), (0, 8, 0), (0, 1, 0)]) rfl rfl (by omega)).trans rfl)
              rw [e87] at b88
              refine pm_iaload (len := 300) (v := y86) hC 101 rfl rfl (by decide) ⟨by omega, by omega⟩ (by decide) e87 dX12_share_76 ?_
              refine pm_iconst (v := 1) hC dX12_share_77 ?_
              refine pm_icmp_ne (tgt := 107) hC ⟨by omega, by omega⟩ ⟨by decide, by decide⟩ dX12_share_78 (by decide) (fun c89 => ?_) (fun c89 => ?_)
              · skip
                replace hb30 := hb30.trans (if_pos c89)
                refine pm_iconst (v := 0) hC dX12_share_107 ?_
                refine pm_iadd hC dX12_share_108 ?_
                refine pm_istore (lv' := [(4, (0, (x17 + 0))), (3, (0, x49)), (0, (3, 90)), (1, (0, a1)), (2, (0, a2)), (5, (0, x19))]) hC dX12_share_109 (by decide) rfl ?_
                obtain ⟨x90, ei91⟩ : ∃ y : Int, x19 + 1 = y := ⟨_, rfl⟩
                replace hb30 := hb30.trans (pf_let_eq ei91)
                refine pm_iinc (y := x90) (lv' := [(5, (0, x90)), (4, (0, (x17 + 0))), (3, (0, x49)), (0, (3, 90)), (1, (0, a1)), (2, (0, a2))]) hC 5 dX12_share_111 (by decide) rfl ei91 rfl ?_
                refine pm_goto (tgt := 28) hC dX12_share_114 (by decide) ?_
                refine pm_lvsub [3, 4, 5, 2, 1, 0] (lv' := [(0, (3, 90)), (1, (0, a1)), (2, (0, a2)), (3, (0, x49)), (4, (0, (x17 + 0))), (5, (0, x90))]) rfl ?_
                exact ih34 _ (by omega) x49 (x17 + 0) x90 V52 ⟨by omega, by omega⟩ ⟨by omega, by omega⟩ ⟨by omega, by omega⟩ (by omega) (by omega) hV54 hF61 hp63 hp64 (hT.trans (pf_val_inl hb30)) rfl
              · skip
                replace hb30 := hb30.trans (if_neg (fun q => q c89))
                refine pm_goto (tgt := 103) hC dX12_share_81 (by decide) ?_
                refine pm_iconst (v := 1) hC dX12_share_103 ?_
                refine pm_goto (tgt := 108) hC dX12_share_104 (by decide) ?_
                refine pm_iadd hC dX12_share_108 ?_
                refine pm_istore (lv' := [(4, (0, (x17 + 1))), (3, (0, x49)), (0, (3, 90)), (1, (0, a1)), (2, (0, a2)), (5, (0, x19))]) hC dX12_share_109 (by decide) rfl ?_
                obtain ⟨x92, ei93⟩ : ∃ y : Int, x19 + 1 = y := ⟨_, rfl⟩
                replace hb30 := hb30.trans (pf_let_eq ei93)
                refine pm_iinc (y := x92) (lv' := [(5, (0, x92)), (4, (0, (x17 + 1))), (3, (0, x49)), (0, (3, 90)), (1, (0, a1)), (2, (0, a2))]) hC 5 dX12_share_111 (by decide) rfl ei93 rfl ?_
                refine pm_goto (tgt := 28) hC dX12_share_114 (by decide) ?_
                refine pm_lvsub [3, 4, 5, 2, 1, 0] (lv' := [(0, (3, 90)), (1, (0, a1)), (2, (0, a2)), (3, (0, x49)), (4, (0, (x17 + 1))), (5, (0, x92))]) rfl ?_
                exact ih34 _ (by omega) x49 (x17 + 1) x92 V52 ⟨by omega, by omega⟩ ⟨by omega, by omega⟩ ⟨by omega, by omega⟩ (by omega) (by omega) hV54 hF61 hp63 hp64 (hT.trans (pf_val_inl hb30)) rfl
          · skip
            replace hb30 := hb30.trans (if_neg (fun q => q c48))
            refine pm_goto (tgt := 111) hC dX12_share_47 (by decide) ?_
            obtain ⟨x94, ei95⟩ : ∃ y : Int, x19 + 1 = y := ⟨_, rfl⟩
            replace hb30 := hb30.trans (pf_let_eq ei95)
            refine pm_iinc (y := x94) (lv' := [(5, (0, x94)), (0, (3, 90)), (1, (0, a1)), (2, (0, a2)), (3, (0, x15)), (4, (0, x17))]) hC 5 dX12_share_111 (by decide) rfl ei95 rfl ?_
            refine pm_goto (tgt := 28) hC dX12_share_114 (by decide) ?_
            refine pm_lvsub [1, 2, 3, 4, 5, 0] (lv' := [(0, (3, 90)), (1, (0, a1)), (2, (0, a2)), (3, (0, x15)), (4, (0, x17)), (5, (0, x94))]) rfl ?_
            exact ih34 _ (by omega) x15 x17 x94 V23 ⟨by omega, by omega⟩ ⟨by omega, by omega⟩ ⟨by omega, by omega⟩ (by omega) (by omega) hV24 hF25 hp26 hp27 (hT.trans (pf_val_inl hb30)) rfl
      refine pm_lvsub [3, 4, 5, 2, 1, 0] (lv' := [(0, (3, 90)), (1, (0, a1)), (2, (0, a2)), (3, (0, 0)), (4, (0, 0)), (5, (0, 0))]) rfl ?_
      exact L31 _ 0 0 0 V0 ⟨by decide, by decide⟩ ⟨by decide, by decide⟩ ⟨by decide, by decide⟩ (by omega) (by omega) hV0 (pm_fs.rf (cs := [110, 111]) (fs := [42, 43, 44, 45, 46, 47, 48, 49]) (V := V0)) hn_pm_h1 hn_pm_h3 hT rfl
    · skip
      replace hT := hT.trans (if_neg (fun q => q c14))
      refine pm_iconst (v := (-1)) hC dX12_share_18 ?_
      exact pm_iret hC hR pm_nar0 ⟨(-1), rfl, ⟨by omega, by omega⟩, hV0, (pm_fs.rf (cs := [110, 111]) (fs := [42, 43, 44, 45, 46, 47, 48, 49]) (V := V0)), hT⟩ dX12_share_19
set_option maxHeartbeats 4000000 in
set_option maxRecDepth 100000 in
theorem fB_X12_foretold (a1 a2 a3 : Int) (h0 : (-2147483648) ≤ a1 ∧ a1 ≤ 2147483647) (h1 : (-2147483648) ≤ a2 ∧ a2 ≤ 2147483647) (h2 : (-2147483648) ≤ a3 ∧ a3 ≤ 2147483647) : pm_K 4 yX12_foretold cX12_foretold 7 (some .int) (fun av V => av = [(3, 90), (0, a1), (0, a2), (0, a3)] ∧ pm_oq pm_qB V ∧ pm_h1 V ∧ pm_h2 V ∧ pm_h3 V) (fun _ V r V' => ∃ y, r = some (0, y) ∧ ((-2147483648) ≤ y ∧ y ≤ 2147483647) ∧ pm_oq pm_qB V' ∧ pm_fs [110, 111, 112] [42, 43, 44, 45, 46, 47, 48, 49, 51] V V' ∧ F_X12_foretold a1 a2 a3 V = (y, V')) := by
  refine pm_MT.of (by decide) ⟨Nat.le_refl _, by decide⟩ (fun av V h => by rw [h.1]; exact (by decide : pm_words [(3, 0), (0, 0), (0, 0), (0, 0)] ≤ 7)) ?_
  rintro X av V0 hC - hR ⟨rfl, hV0, hn_pm_h1, hn_pm_h2, hn_pm_h3⟩
  change pm_J X 0 [(0, (3, 90)), (1, (0, a1)), (2, (0, a2)), (3, (0, a3))] [] 118 V0
  have hT := F_X12_foretold_eq a1 a2 a3 V0
  refine pm_iload_n hC 1 dX12_foretold_0 rfl ?_
  refine pm_callS (as := [(0, a1)]) (st := []) hC (fB_X12_isLaw a1 ⟨by omega, by omega⟩) lm_X12_370 ls_X12_isLaw (by decide) (by decide) rfl rfl (Nat.le_of_ble_eq_true rfl) ⟨Nat.le_refl _, Or.inl rfl⟩ dX12_foretold_1 ⟨rfl, hV0⟩ (fun r1 V2 hp3 => ?_)
  obtain ⟨y4, rfl, b5, rfl, hE6⟩ := hp3
  replace hT := hT.trans (pf_call_eq hE6)
  change pm_J X 4 [(0, (3, 90)), (1, (0, a1)), (2, (0, a2)), (3, (0, a3))] [(0, y4)] 118 V0
  refine pm_if_eq (tgt := 25) hC ⟨by omega, by omega⟩ dX12_foretold_4 (by decide) (fun c7 => ?_) (fun c7 => ?_)
  · skip
    replace hT := hT.trans (if_pos c7)
    refine pm_iconst (v := (-1)) hC dX12_foretold_25 ?_
    exact pm_iret hC hR pm_nar0 ⟨(-1), rfl, ⟨by omega, by omega⟩, hV0, (pm_fs.rf (cs := [110, 111, 112]) (fs := [42, 43, 44, 45, 46, 47, 48, 49, 51]) (V := V0)), hT⟩ dX12_foretold_26
  · skip
    replace hT := hT.trans (if_neg c7)
    refine pm_iload_n hC 2 dX12_foretold_7 rfl ?_
    refine pm_iconst (v := (-1)) hC dX12_foretold_8 ?_
    refine pm_iconst (v := 3) hC dX12_foretold_9 ?_
    refine pm_callS (as := [(0, a2), (0, (-1)), (0, 3)]) (st := []) hC (fB_X12_in a2 (-1) 3 ⟨by omega, by omega⟩ ⟨by decide, by decide⟩ ⟨by decide, by decide⟩) lm_X12_98 ls_X12_in (by decide) (by decide) rfl rfl (Nat.le_of_ble_eq_true rfl) ⟨Nat.le_refl _, Or.inl rfl⟩ dX12_foretold_10 ⟨rfl, hV0⟩ (fun r8 V9 hp10 => ?_)
    obtain ⟨y11, rfl, b12, rfl, hE13⟩ := hp10
    replace hT := hT.trans (pf_call_eq hE13)
    change pm_J X 13 [(0, (3, 90)), (1, (0, a1)), (2, (0, a2)), (3, (0, a3))] [(0, y11)] 118 V0
    refine pm_if_eq (tgt := 25) hC ⟨by omega, by omega⟩ dX12_foretold_13 (by decide) (fun c14 => ?_) (fun c14 => ?_)
    · skip
      replace hT := hT.trans (if_pos c14)
      refine pm_iconst (v := (-1)) hC dX12_foretold_25 ?_
      exact pm_iret hC hR pm_nar0 ⟨(-1), rfl, ⟨by omega, by omega⟩, hV0, (pm_fs.rf (cs := [110, 111, 112]) (fs := [42, 43, 44, 45, 46, 47, 48, 49, 51]) (V := V0)), hT⟩ dX12_foretold_26
    · skip
      replace hT := hT.trans (if_neg c14)
      refine pm_iload_n hC 3 dX12_foretold_16 rfl ?_
      refine pm_iconst (v := 0) hC dX12_foretold_17 ?_
      refine pm_iconst (v := 4) hC dX12_foretold_18 ?_
      refine pm_callS (as := [(0, a3), (0, 0), (0, 4)]) (st := []) hC (fB_X12_in a3 0 4 ⟨by omega, by omega⟩ ⟨by decide, by decide⟩ ⟨by decide, by decide⟩) lm_X12_98 ls_X12_in (by decide) (by decide) rfl rfl (Nat.le_of_ble_eq_true rfl) ⟨Nat.le_refl _, Or.inl rfl⟩ dX12_foretold_19 ⟨rfl, hV0⟩ (fun r15 V16 hp17 => ?_)
      obtain ⟨y18, rfl, b19, rfl, hE20⟩ := hp17
      replace hT := hT.trans (pf_call_eq hE20)
      change pm_J X 22 [(0, (3, 90)), (1, (0, a1)), (2, (0, a2)), (3, (0, a3))] [(0, y18)] 118 V0
      refine pm_if_ne (tgt := 27) hC ⟨by omega, by omega⟩ dX12_foretold_22 (by decide) (fun c21 => ?_) (fun c21 => ?_)
      · skip
        replace hT := hT.trans (if_pos c21)
        refine pm_iconst (v := 0) hC dX12_foretold_27 ?_
        refine pm_istore (lv' := [(4, (0, 0)), (0, (3, 90)), (1, (0, a1)), (2, (0, a2)), (3, (0, a3))]) hC dX12_foretold_28 (by decide) rfl ?_
        refine pm_iconst (v := 0) hC dX12_foretold_30 ?_
        refine pm_istore (lv' := [(5, (0, 0)), (4, (0, 0)), (0, (3, 90)), (1, (0, a1)), (2, (0, a2)), (3, (0, a3))]) hC dX12_foretold_31 (by decide) rfl ?_
        refine pm_iconst (v := 0) hC dX12_foretold_33 ?_
        refine pm_istore (lv' := [(6, (0, 0)), (5, (0, 0)), (4, (0, 0)), (0, (3, 90)), (1, (0, a1)), (2, (0, a2)), (3, (0, a3))]) hC dX12_foretold_34 (by decide) rfl ?_
        obtain ⟨B35, hB36, hT⟩ := pf_loop hT
        have L38 : ∀ (N40 : Nat) (x22 : Int) (x24 : Int) (x26 : Int) (V29 : pm_M), (0 ≤ x22 ∧ x22 ≤ 60) → ((-2147483648) ≤ x24 ∧ x24 ≤ 2147483647) → (0 ≤ x26 ∧ x26 ≤ 60) → (x22 ≤ x26) → pm_oq pm_qB V29 → pm_fs [110, 111, 112] [42, 43, 44, 45, 46, 47, 48, 49, 51] V0 V29 → pm_h1 V29 → pm_h2 V29 → pm_h3 V29 → F_X12_foretold a1 a2 a3 V0 = pf_val ((0 : Int), V0) B35 (x22, x24, x26, V29) → (Int.toNat (60 - x26)) = N40 → pm_J X 36 [(0, (3, 90)), (1, (0, a1)), (2, (0, a2)), (3, (0, a3)), (4, (0, x22)), (5, (0, x24)), (6, (0, x26))] [] 118 V29 := by
          intro N40
          induction N40 using Nat.strongRecOn with
          | _ N40 ih41 =>
          intro x22 x24 x26 V29 b23 b25 b27 b28 hV30 hF31 hp32 hp33 hp34 hT hm39
          have hb37 := congrFun hB36 (x22, x24, x26, V29)
          refine pm_iload hC 6 dX12_foretold_36 rfl ?_
          refine pm_aload_n hC 0 (by decide) dX12_foretold_38 rfl ?_
          obtain ⟨y42, e43⟩ : ∃ y, V29 90 25 = y := ⟨_, rfl⟩
          have b44 := hV30.get 90 25 (lo := 0) (hi := 60) (by decide) (by decide) rfl
          rw [e43] at b44
          replace hb37 := hb37.trans (pf_let_eq e43)
          refine pm_getf (v := y42) hC 90 fl_X12_235 rfl rfl (by decide) rfl e43 dX12_foretold_39 ?_
          refine pm_icmp_ge (tgt := 100) hC ⟨by omega, by omega⟩ ⟨by omega, by omega⟩ dX12_foretold_42 (by decide) (fun c45 => ?_) (fun c45 => ?_)
          · skip
            replace hb37 := hb37.trans (if_pos c45)
            refine pm_iload hC 4 dX12_foretold_100 rfl ?_
            refine pm_if_ne (tgt := 109) hC ⟨by omega, by omega⟩ dX12_foretold_102 (by decide) (fun c46 => ?_) (fun c46 => ?_)
            · skip
              replace hb37 := hb37.trans (if_pos c46)
              refine pm_iload hC 5 dX12_foretold_109 rfl ?_
              refine pm_iload hC 4 dX12_foretold_111 rfl ?_
              refine pm_idivT hC ⟨by omega, by omega⟩ ⟨by omega, by omega⟩ (by omega) dX12_foretold_113 ?_
              refine pm_wr hC (fun y47 hw49 b48 => ?_)
              replace hb37 := hb37.trans (pf_let_eq hw49)
              have b48 := And.intro b48.1 b48.2
              have hT := hT.trans (pf_val_inr hb37)
              exact pm_iret hC hR pm_nar0 ⟨y47, rfl, ⟨by omega, by omega⟩, hV30, hF31, hT⟩ dX12_foretold_114
            · skip
              replace hb37 := hb37.trans (if_neg (fun q => q c46))
              refine pm_iconst (v := (-1)) hC dX12_foretold_105 ?_
              refine pm_goto (tgt := 114) hC dX12_foretold_106 (by decide) ?_
              have hT := hT.trans (pf_val_inr hb37)
              exact pm_iret hC hR pm_nar0 ⟨(-1), rfl, ⟨by omega, by omega⟩, hV30, hF31, hT⟩ dX12_foretold_114
          · skip
            replace hb37 := hb37.trans (if_neg (Int.not_le.mpr c45))
            refine pm_aload_n hC 0 (by decide) dX12_foretold_45 rfl ?_
            refine pm_iload hC 6 dX12_foretold_46 rfl ?_
            refine pm_iload_n hC 2 dX12_foretold_48 rfl ?_
            refine pm_callV (ci := 12) (as := [(0, x26), (0, a2)]) (st := []) hC 90 (fB_X12_isOf x26 a2 ⟨by omega, by omega⟩ ⟨by omega, by omega⟩) lm_X12_433 li_X12_isOf (by decide) (by decide) rfl rfl rfl (by decide) rfl rfl (Nat.le_of_ble_eq_true rfl) ⟨Nat.le_refl _, Or.inl rfl⟩ dX12_foretold_49 ⟨rfl, hV30⟩ (fun r50 V51 hp52 => ?_)
            obtain ⟨y53, rfl, b54, rfl, hE55⟩ := hp52
            replace hb37 := hb37.trans (pf_call_eq hE55)
            change pm_J X 52 [(0, (3, 90)), (1, (0, a1)), (2, (0, a2)), (3, (0, a3)), (4, (0, x22)), (5, (0, x24)), (6, (0, x26))] [(0, y53)] 118 V29
            refine pm_if_ne (tgt := 58) hC ⟨by omega, by omega⟩ dX12_foretold_52 (by decide) (fun c56 => ?_) (fun c56 => ?_)
            · skip
              replace hb37 := hb37.trans (if_pos c56)
              obtain ⟨x57, ei58⟩ : ∃ y : Int, x22 + 1 = y := ⟨_, rfl⟩
              replace hb37 := hb37.trans (pf_let_eq ei58)
              refine pm_iinc (y := x57) (lv' := [(4, (0, x57)), (0, (3, 90)), (1, (0, a1)), (2, (0, a2)), (3, (0, a3)), (5, (0, x24)), (6, (0, x26))]) hC 4 dX12_foretold_58 (by decide) rfl ei58 rfl ?_
              refine pm_aload_n hC 1 (by decide) dX12_foretold_61 rfl ?_
              refine pm_iload hC 6 dX12_foretold_62 rfl ?_
              refine pm_callV (ci := 12) (as := [(0, x26)]) (st := []) hC 90 (fB_X12_worksAnswer x26 ⟨by omega, by omega⟩) lm_X12_403 li_X12_worksAnswer (by decide) (by decide) rfl rfl rfl (by decide) rfl rfl (Nat.le_of_ble_eq_true rfl) ⟨Nat.le_refl _, Or.inl rfl⟩ dX12_foretold_64 ⟨rfl, hV30, (show (x26) < V29 90 25 by omega), hp32, hp34⟩ (fun r59 V60 hp61 => ?_)
              obtain ⟨rfl, hV62, hF63, hq64, hq65, hg66, hg67, hE68⟩ := hp61
              replace hb37 := hb37.trans (pf_call_eq hE68)
              change pm_J X 67 [(4, (0, x57)), (0, (3, 90)), (1, (0, a1)), (2, (0, a2)), (3, (0, a3)), (5, (0, x24)), (6, (0, x26))] [] 118 V60
              have hF69 := pm_fs.tr hF31 hF63 (by decide) (by decide)
              have e70 : V60 90 25 = y42 := by rw [hF63.2 25 (by decide)]; exact e43
              have hp71 : pm_h1 V60 := (pm_h1.fr hp32 (hF63.2 16 (by decide)) (hF63.1 97 (by decide) (by decide)))
              have hp72 : pm_h2 V60 := (pm_h2.fr hp33 (hF63.2 16 (by decide)) (hF63.2 21 (by decide)) (hF63.1 99 (by decide) (by decide)))
              have hp73 : pm_h3 V60 := (pm_h3.fr hp34 (hF63.2 16 (by decide)) (hF63.2 25 (by decide)) (hF63.1 101 (by decide) (by decide)))
              obtain ⟨z74, ez75⟩ : ∃ z, V60 90 42 = z := ⟨_, rfl⟩
              rw [ez75] at hq64
              replace hb37 := hb37.trans (pf_let_eq ez75)
              obtain ⟨z76, ez77⟩ : ∃ z, V60 90 43 = z := ⟨_, rfl⟩
              rw [ez77] at hq65
              replace hb37 := hb37.trans (pf_let_eq ez77)
              refine pm_aload_n hC 1 (by decide) dX12_foretold_67 rfl ?_
              refine pm_iload_n hC 2 dX12_foretold_68 rfl ?_
              have q81 : 1 ≤ V60 90 42 ∧ V60 90 42 ≤ 171 := by (have e : V60 90 42 = z74 := ez75); rw [e]; exact ⟨by omega, by omega⟩
              have q82 : 1 ≤ V60 90 43 ∧ V60 90 43 ≤ 171 := by (have e : V60 90 43 = z76 := ez77); rw [e]; exact ⟨by omega, by omega⟩
              refine pm_callV (ci := 12) (as := [(0, a1)]) (st := []) hC 90 (fB_X12_weighs a1 ⟨by omega, by omega⟩) lm_X12_380 li_X12_weighs (by decide) (by decide) rfl rfl rfl (by decide) rfl rfl (Nat.le_of_ble_eq_true rfl) ⟨Nat.le_refl _, Or.inl rfl⟩ dX12_foretold_69 ⟨rfl, hV62, q81, q82, hg66, hp71, hp72, hg67⟩ (fun r78 V79 hp80 => ?_)
              obtain ⟨rfl, hV83, hF84, hg85, hE86⟩ := hp80
              replace hb37 := hb37.trans (pf_call_eq hE86)
              change pm_J X 72 [(4, (0, x57)), (0, (3, 90)), (1, (0, a1)), (2, (0, a2)), (3, (0, a3)), (5, (0, x24)), (6, (0, x26))] [] 118 V79
              have hF87 := pm_fs.tr hF69 hF84 (by decide) (by decide)
              have e88 : V79 90 25 = y42 := by rw [hF84.2 25 (by decide)]; exact e70
              have e89 : V79 90 42 = z74 := by rw [hF84.2 42 (by decide)]; exact ez75
              have e90 : V79 90 43 = z76 := by rw [hF84.2 43 (by decide)]; exact ez77
              have hp91 : pm_h1 V79 := (pm_h1.fr hp71 (hF84.2 16 (by decide)) (hF84.1 97 (by decide) (by decide)))
              have hp92 : pm_h2 V79 := (pm_h2.fr hp72 (hF84.2 16 (by decide)) (hF84.2 21 (by decide)) (hF84.1 99 (by decide) (by decide)))
              have hp93 : pm_h3 V79 := (pm_h3.fr hp73 (hF84.2 16 (by decide)) (hF84.2 25 (by decide)) (hF84.1 101 (by decide) (by decide)))
              have hp94 : pm_w1 V79 := (pm_w1.fr hg66 (hF84.2 16 (by decide)) (hF84.2 48 (by decide)) (hF84.2 49 (by decide)) (hF84.1 110 (by decide) (by decide)) (hF84.1 111 (by decide) (by decide)))
              have hp95 : pm_w3 V79 := (pm_w3.fr hg67 (hF84.2 16 (by decide)) (hF84.2 46 (by decide)) (hF84.1 110 (by decide) (by decide)) (hF84.1 111 (by decide) (by decide)))
              refine pm_iload hC 5 dX12_foretold_72 rfl ?_
              refine pm_iload_n hC 4 dX12_foretold_74 rfl ?_
              refine pm_iconst (v := 4) hC dX12_foretold_75 ?_
              refine pm_icmp_ne (tgt := 86) hC ⟨by omega, by omega⟩ ⟨by decide, by decide⟩ dX12_foretold_76 (by decide) (fun c96 => ?_) (fun c96 => ?_)
              · skip
                replace hb37 := hb37.trans (if_pos c96)
                refine pm_aload_n hC 1 (by decide) dX12_foretold_86 rfl ?_
                refine pm_iload_n hC 4 dX12_foretold_87 rfl ?_
                refine pm_callV (ci := 12) (as := [(0, a3)]) (st := [(0, x24)]) hC 90 (fB_X12_chanceOfKind a3 ⟨by omega, by omega⟩) lm_X12_390 li_X12_chanceOfKind (by decide) (by decide) rfl rfl rfl (by decide) rfl rfl (Nat.le_of_ble_eq_true rfl) ⟨Nat.le_refl _, Or.inl rfl⟩ dX12_foretold_88 ⟨rfl, hV83, hg85⟩ (fun r97 V98 hp99 => ?_)
                obtain ⟨y100, rfl, b101, rfl, hE102⟩ := hp99
                replace hb37 := hb37.trans (pf_call_eq hE102)
                change pm_J X 91 [(4, (0, x57)), (0, (3, 90)), (1, (0, a1)), (2, (0, a2)), (3, (0, a3)), (5, (0, x24)), (6, (0, x26))] [(0, y100), (0, x24)] 118 V79
                refine pm_iadd hC dX12_foretold_91 ?_
                refine pm_wr hC (fun y103 hw105 b104 => ?_)
                replace hb37 := hb37.trans (pf_let_eq hw105)
                have b104 := And.intro b104.1 b104.2
                refine pm_istore (lv' := [(5, (0, y103)), (4, (0, x57)), (0, (3, 90)), (1, (0, a1)), (2, (0, a2)), (3, (0, a3)), (6, (0, x26))]) hC dX12_foretold_92 (by decide) rfl ?_
                obtain ⟨x106, ei107⟩ : ∃ y : Int, x26 + 1 = y := ⟨_, rfl⟩
                replace hb37 := hb37.trans (pf_let_eq ei107)
                refine pm_iinc (y := x106) (lv' := [(6, (0, x106)), (5, (0, y103)), (4, (0, x57)), (0, (3, 90)), (1, (0, a1)), (2, (0, a2)), (3, (0, a3))]) hC 6 dX12_foretold_94 (by decide) rfl ei107 rfl ?_
                refine pm_goto (tgt := 36) hC dX12_foretold_97 (by decide) ?_
                refine pm_lvsub [3, 4, 5, 6, 2, 1, 0] (lv' := [(0, (3, 90)), (1, (0, a1)), (2, (0, a2)), (3, (0, a3)), (4, (0, x57)), (5, (0, y103)), (6, (0, x106))]) rfl ?_
                exact ih41 _ (by omega) x57 y103 x106 V79 ⟨by omega, by omega⟩ ⟨by omega, by omega⟩ ⟨by omega, by omega⟩ (by omega) hV83 hF87 hp91 hp92 hp93 (hT.trans (pf_val_inl hb37)) rfl
              · skip
                replace hb37 := hb37.trans (if_neg (fun q => q c96))
                refine pm_aload_n hC 1 (by decide) dX12_foretold_79 rfl ?_
                refine pm_callV (ci := 12) (as := []) (st := [(0, x24)]) hC 90 fB_X12_noticedNow lm_X12_396 li_X12_noticedNow (by decide) (by decide) rfl rfl rfl (by decide) rfl rfl (Nat.le_of_ble_eq_true rfl) ⟨Nat.le_refl _, Or.inl rfl⟩ dX12_foretold_80 ⟨rfl, hV83⟩ (fun r108 V109 hp110 => ?_)
                obtain ⟨y111, rfl, b112, rfl, hE113⟩ := hp110
                replace hb37 := hb37.trans (pf_call_eq hE113)
                change pm_J X 83 [(4, (0, x57)), (0, (3, 90)), (1, (0, a1)), (2, (0, a2)), (3, (0, a3)), (5, (0, x24)), (6, (0, x26))] [(0, y111), (0, x24)] 118 V79
                refine pm_goto (tgt := 91) hC dX12_foretold_83 (by decide) ?_
                refine pm_iadd hC dX12_foretold_91 ?_
                refine pm_wr hC (fun y114 hw116 b115 => ?_)
                replace hb37 := hb37.trans (pf_let_eq hw116)
                have b115 := And.intro b115.1 b115.2
                refine pm_istore (lv' := [(5, (0, y114)), (4, (0, x57)), (0, (3, 90)), (1, (0, a1)), (2, (0, a2)), (3, (0, a3)), (6, (0, x26))]) hC dX12_foretold_92 (by decide) rfl ?_
                obtain ⟨x117, ei118⟩ : ∃ y : Int, x26 + 1 = y := ⟨_, rfl⟩
                replace hb37 := hb37.trans (pf_let_eq ei118)
                refine pm_iinc (y := x117) (lv' := [(6, (0, x117)), (5, (0, y114)), (4, (0, x57)), (0, (3, 90)), (1, (0, a1)), (2, (0, a2)), (3, (0, a3))]) hC 6 dX12_foretold_94 (by decide) rfl ei118 rfl ?_
                refine pm_goto (tgt := 36) hC dX12_foretold_97 (by decide) ?_
                refine pm_lvsub [3, 4, 5, 6, 2, 1, 0] (lv' := [(0, (3, 90)), (1, (0, a1)), (2, (0, a2)), (3, (0, a3)), (4, (0, x57)), (5, (0, y114)), (6, (0, x117))]) rfl ?_
                exact ih41 _ (by omega) x57 y114 x117 V79 ⟨by omega, by omega⟩ ⟨by omega, by omega⟩ ⟨by omega, by omega⟩ (by omega) hV83 hF87 hp91 hp92 hp93 (hT.trans (pf_val_inl hb37)) rfl
            · skip
              replace hb37 := hb37.trans (if_neg (fun q => q c56))
              refine pm_goto (tgt := 94) hC dX12_foretold_55 (by decide) ?_
              obtain ⟨x119, ei120⟩ : ∃ y : Int, x26 + 1 = y := ⟨_, rfl⟩
              replace hb37 := hb37.trans (pf_let_eq ei120)
              refine pm_iinc (y := x119) (lv' := [(6, (0, x119)), (0, (3, 90)), (1, (0, a1)), (2, (0, a2)), (3, (0, a3)), (4, (0, x22)), (5, (0, x24))]) hC 6 dX12_foretold_94 (by decide) rfl ei120 rfl ?_
              refine pm_goto (tgt := 36) hC dX12_foretold_97 (by decide) ?_
              refine pm_lvsub [1, 2, 3, 4, 5, 6, 0] (lv' := [(0, (3, 90)), (1, (0, a1)), (2, (0, a2)), (3, (0, a3)), (4, (0, x22)), (5, (0, x24)), (6, (0, x119))]) rfl ?_
              exact ih41 _ (by omega) x22 x24 x119 V29 ⟨by omega, by omega⟩ ⟨by omega, by omega⟩ ⟨by omega, by omega⟩ (by omega) hV30 hF31 hp32 hp33 hp34 (hT.trans (pf_val_inl hb37)) rfl
        refine pm_lvsub [3, 4, 5, 6, 2, 1, 0] (lv' := [(0, (3, 90)), (1, (0, a1)), (2, (0, a2)), (3, (0, a3)), (4, (0, 0)), (5, (0, 0)), (6, (0, 0))]) rfl ?_
        exact L38 _ 0 0 0 V0 ⟨by decide, by decide⟩ ⟨by decide, by decide⟩ ⟨by decide, by decide⟩ (by omega) hV0 (pm_fs.rf (cs := [110, 111, 112]) (fs := [42, 43, 44, 45, 46, 47, 48, 49, 51]) (V := V0)) hn_pm_h1 hn_pm_h2 hn_pm_h3 hT rfl
      · skip
        replace hT := hT.trans (if_neg (fun q => q c21))
        refine pm_iconst (v := (-1)) hC dX12_foretold_25 ?_
        exact pm_iret hC hR pm_nar0 ⟨(-1), rfl, ⟨by omega, by omega⟩, hV0, (pm_fs.rf (cs := [110, 111, 112]) (fs := [42, 43, 44, 45, 46, 47, 48, 49, 51]) (V := V0)), hT⟩ dX12_foretold_26
set_option maxHeartbeats 4000000 in
set_option maxRecDepth 100000 in
theorem fB_X12_pairs (a1 a2 a3 a4 a5 : Int) (h0 : (-2147483648) ≤ a1 ∧ a1 ≤ 2147483647) (h1 : (-2147483648) ≤ a2 ∧ a2 ≤ 2147483647) (h2 : (-2147483648) ≤ a3 ∧ a3 ≤ 2147483647) (h3 : (-2147483648) ≤ a4 ∧ a4 ≤ 2147483647) (h4 : (-2147483648) ≤ a5 ∧ a5 ≤ 2147483647) : pm_K 4 yX12_pairs cX12_pairs 9 (some .int) (fun av V => av = [(3, 90), (0, a1), (0, a2), (0, a3), (0, a4), (0, a5)] ∧ pm_oq pm_qB V ∧ pm_h1 V ∧ pm_h2 V) (fun _ V r V' => ∃ y, r = some (0, y) ∧ ((-1) ≤ y ∧ y ≤ 88) ∧ pm_oq pm_qB V' ∧ pm_fs [110, 111, 112] [42, 43, 44, 45, 46, 47, 48, 49, 51] V V' ∧ F_X12_pairs a1 a2 a3 a4 a5 V = (y, V')) := by
  refine pm_MT.of (by decide) ⟨Nat.le_refl _, by decide⟩ (fun av V h => by rw [h.1]; exact (by decide : pm_words [(3, 0), (0, 0), (0, 0), (0, 0), (0, 0), (0, 0)] ≤ 9)) ?_
  rintro X av V0 hC - hR ⟨rfl, hV0, hn_pm_h1, hn_pm_h2⟩
  change pm_J X 0 [(0, (3, 90)), (1, (0, a1)), (2, (0, a2)), (3, (0, a3)), (4, (0, a4)), (5, (0, a5))] [] 118 V0
  have hT := F_X12_pairs_eq a1 a2 a3 a4 a5 V0
  obtain ⟨y1, e2⟩ : ∃ y, V0 90 16 = y := ⟨_, rfl⟩
  have b3 := hV0.get 90 16 (lo := 2) (hi := 9) (by decide) (by decide) rfl
  rw [e2] at b3
  replace hT := hT.trans (pf_let_eq e2)
  refine pm_iload_n hC 1 dX12_pairs_0 rfl ?_
  refine pm_if_lt (tgt := 44) hC ⟨by omega, by omega⟩ dX12_pairs_1 (by decide) (fun c4 => ?_) (fun c4 => ?_)
  · skip
    replace hT := hT.trans (if_pos c4)
    refine pm_iconst (v := (-1)) hC dX12_pairs_44 ?_
    exact pm_iret hC hR pm_nar0 ⟨(-1), rfl, ⟨by omega, by omega⟩, hV0, (pm_fs.rf (cs := [110, 111, 112]) (fs := [42, 43, 44, 45, 46, 47, 48, 49, 51]) (V := V0)), hT⟩ dX12_pairs_45
  · skip
    replace hT := hT.trans (if_neg (Int.not_lt.mpr c4))
    refine pm_iload_n hC 1 dX12_pairs_4 rfl ?_
    refine pm_bipush (v := 10) hC dX12_pairs_5 (by decide) ?_
    refine pm_idiv hC ⟨by omega, by omega, by omega⟩ ⟨by decide, by decide, by decide⟩ dX12_pairs_7 ?_
    refine pm_iconst (v := 3) hC dX12_pairs_8 ?_
    refine pm_icmp_gt (tgt := 44) hC ⟨by omega, by omega⟩ ⟨by decide, by decide⟩ dX12_pairs_9 (by decide) (fun c5 => ?_) (fun c5 => ?_)
    · skip
      replace hT := hT.trans (if_pos c5)
      refine pm_iconst (v := (-1)) hC dX12_pairs_44 ?_
      exact pm_iret hC hR pm_nar0 ⟨(-1), rfl, ⟨by omega, by omega⟩, hV0, (pm_fs.rf (cs := [110, 111, 112]) (fs := [42, 43, 44, 45, 46, 47, 48, 49, 51]) (V := V0)), hT⟩ dX12_pairs_45
    · skip
      replace hT := hT.trans (if_neg (Int.not_lt.mpr c5))
      refine pm_iload_n hC 1 dX12_pairs_12 rfl ?_
      refine pm_bipush (v := 10) hC dX12_pairs_13 (by decide) ?_
      refine pm_irem hC ⟨by omega, by omega, by omega⟩ ⟨by decide, by decide, by decide⟩ dX12_pairs_15 ?_
      refine pm_callS (as := [(0, (a1 % 10))]) (st := []) hC (fB_X12_isLaw (a1 % 10) ⟨by omega, by omega⟩) lm_X12_370 ls_X12_isLaw (by decide) (by decide) rfl rfl (Nat.le_of_ble_eq_true rfl) ⟨Nat.le_refl _, Or.inl rfl⟩ dX12_pairs_16 ⟨rfl, hV0⟩ (fun r6 V7 hp8 => ?_)
      obtain ⟨y9, rfl, b10, rfl, hE11⟩ := hp8
      replace hT := hT.trans (pf_call_eq hE11)
      change pm_J X 19 [(0, (3, 90)), (1, (0, a1)), (2, (0, a2)), (3, (0, a3)), (4, (0, a4)), (5, (0, a5))] [(0, y9)] 118 V0
      refine pm_if_eq (tgt := 44) hC ⟨by omega, by omega⟩ dX12_pairs_19 (by decide) (fun c12 => ?_) (fun c12 => ?_)
      · skip
        replace hT := hT.trans (if_pos c12)
        refine pm_iconst (v := (-1)) hC dX12_pairs_44 ?_
        exact pm_iret hC hR pm_nar0 ⟨(-1), rfl, ⟨by omega, by omega⟩, hV0, (pm_fs.rf (cs := [110, 111, 112]) (fs := [42, 43, 44, 45, 46, 47, 48, 49, 51]) (V := V0)), hT⟩ dX12_pairs_45
      · skip
        replace hT := hT.trans (if_neg c12)
        refine pm_aload_n hC 0 (by decide) dX12_pairs_22 rfl ?_
        refine pm_iload_n hC 2 dX12_pairs_23 rfl ?_
        refine pm_callV (ci := 12) (as := [(0, a2)]) (st := []) hC 90 (fB_X12_isPerson a2 ⟨by omega, by omega⟩) lm_X12_302 li_X12_isPerson (by decide) (by decide) rfl rfl rfl (by decide) rfl rfl (Nat.le_of_ble_eq_true rfl) ⟨Nat.le_refl _, Or.inl rfl⟩ dX12_pairs_24 ⟨rfl, hV0⟩ (fun r13 V14 hp15 => ?_)
        obtain ⟨y16, rfl, b17, rfl, hE18⟩ := hp15
        replace hT := hT.trans (pf_call_eq hE18)
        change pm_J X 27 [(0, (3, 90)), (1, (0, a1)), (2, (0, a2)), (3, (0, a3)), (4, (0, a4)), (5, (0, a5))] [(0, y16)] 118 V0
        refine pm_if_eq (tgt := 44) hC ⟨by omega, by omega⟩ dX12_pairs_27 (by decide) (fun c19 => ?_) (fun c19 => ?_)
        · skip
          replace hT := hT.trans (if_pos c19)
          refine pm_iconst (v := (-1)) hC dX12_pairs_44 ?_
          exact pm_iret hC hR pm_nar0 ⟨(-1), rfl, ⟨by omega, by omega⟩, hV0, (pm_fs.rf (cs := [110, 111, 112]) (fs := [42, 43, 44, 45, 46, 47, 48, 49, 51]) (V := V0)), hT⟩ dX12_pairs_45
        · skip
          replace hT := hT.trans (if_neg c19)
          refine pm_aload_n hC 0 (by decide) dX12_pairs_30 rfl ?_
          refine pm_bipush (v := 100) hC dX12_pairs_31 (by decide) ?_
          refine pm_iload_n hC 2 dX12_pairs_33 rfl ?_
          refine pm_imul hC dX12_pairs_34 ?_
          refine pm_iload_n hC 3 dX12_pairs_35 rfl ?_
          refine pm_iload hC 4 dX12_pairs_36 rfl ?_
          refine pm_callV (ci := 12) (as := [(0, (100 * a2)), (0, a3), (0, a4)]) (st := []) hC 90 (fB_X12_isTrial (100 * a2) a3 a4 ⟨by omega, by omega⟩ ⟨by omega, by omega⟩ ⟨by omega, by omega⟩) lm_X12_373 li_X12_isTrial (by decide) (by decide) rfl rfl rfl (by decide) rfl rfl (Nat.le_of_ble_eq_true rfl) ⟨Nat.le_refl _, Or.inl rfl⟩ dX12_pairs_38 ⟨rfl, hV0⟩ (fun r20 V21 hp22 => ?_)
          obtain ⟨y23, rfl, b24, rfl, hE25⟩ := hp22
          replace hT := hT.trans (pf_call_eq hE25)
          change pm_J X 41 [(0, (3, 90)), (1, (0, a1)), (2, (0, a2)), (3, (0, a3)), (4, (0, a4)), (5, (0, a5))] [(0, y23)] 118 V0
          refine pm_if_ne (tgt := 46) hC ⟨by omega, by omega⟩ dX12_pairs_41 (by decide) (fun c26 => ?_) (fun c26 => ?_)
          · skip
            replace hT := hT.trans (if_pos c26)
            refine pm_iconst (v := 0) hC dX12_pairs_46 ?_
            refine pm_istore (lv' := [(6, (0, 0)), (0, (3, 90)), (1, (0, a1)), (2, (0, a2)), (3, (0, a3)), (4, (0, a4)), (5, (0, a5))]) hC dX12_pairs_47 (by decide) rfl ?_
            refine pm_iconst (v := 0) hC dX12_pairs_49 ?_
            refine pm_istore (lv' := [(7, (0, 0)), (6, (0, 0)), (0, (3, 90)), (1, (0, a1)), (2, (0, a2)), (3, (0, a3)), (4, (0, a4)), (5, (0, a5))]) hC dX12_pairs_50 (by decide) rfl ?_
            obtain ⟨B38, hB39, hT⟩ := pf_loop hT
            have L41 : ∀ (N43 : Nat) (x27 : Int) (x29 : Int) (V32 : pm_M), (0 ≤ x27 ∧ x27 ≤ 81) → (0 ≤ x29 ∧ x29 ≤ 9) → (x27 ≤ 9 * x29) → pm_oq pm_qB V32 → pm_fs [110, 111, 112] [42, 43, 44, 45, 46, 47, 48, 49, 51] V0 V32 → V32 90 16 = y1 → pm_h1 V32 → pm_h2 V32 → F_X12_pairs a1 a2 a3 a4 a5 V0 = pf_val ((0 : Int), V0) B38 (x27, x29, V32) → (Int.toNat (9 - x29)) = N43 → pm_J X 52 [(0, (3, 90)), (1, (0, a1)), (2, (0, a2)), (3, (0, a3)), (4, (0, a4)), (5, (0, a5)), (6, (0, x27)), (7, (0, x29))] [] 118 V32 := by
              intro N43
              induction N43 using Nat.strongRecOn with
              | _ N43 ih44 =>
              intro x27 x29 V32 b28 b30 b31 hV33 hF34 e35 hp36 hp37 hT hm42
              have hb40 := congrFun hB39 (x27, x29, V32)
              refine pm_iload hC 7 dX12_pairs_52 rfl ?_
              refine pm_aload_n hC 0 (by decide) dX12_pairs_54 rfl ?_
              refine pm_getf (v := y1) hC 90 fl_X12_220 rfl rfl (by decide) rfl e35 dX12_pairs_55 ?_
              refine pm_icmp_ge (tgt := 160) hC ⟨by omega, by omega⟩ ⟨by omega, by omega⟩ dX12_pairs_58 (by decide) (fun c45 => ?_) (fun c45 => ?_)
              · skip
                replace hb40 := hb40.trans (if_pos c45)
                refine pm_iload hC 5 dX12_pairs_160 rfl ?_
                refine pm_iconst (v := (-1)) hC dX12_pairs_162 ?_
                refine pm_icmp_ne (tgt := 171) hC ⟨by omega, by omega⟩ ⟨by decide, by decide⟩ dX12_pairs_163 (by decide) (fun c46 => ?_) (fun c46 => ?_)
                · skip
                  replace hb40 := hb40.trans (if_pos c46)
                  refine pm_iconst (v := (-1)) hC dX12_pairs_171 ?_
                  have hT := hT.trans (pf_val_inr hb40)
                  exact pm_iret hC hR pm_nar0 ⟨(-1), rfl, ⟨by omega, by omega⟩, hV33, hF34, hT⟩ dX12_pairs_172
                · skip
                  replace hb40 := hb40.trans (if_neg (fun q => q c46))
                  refine pm_iload hC 6 dX12_pairs_166 rfl ?_
                  refine pm_goto (tgt := 172) hC dX12_pairs_168 (by decide) ?_
                  have hT := hT.trans (pf_val_inr hb40)
                  exact pm_iret hC hR pm_nar0 ⟨x27, rfl, ⟨by omega, by omega⟩, hV33, hF34, hT⟩ dX12_pairs_172
              · skip
                replace hb40 := hb40.trans (if_neg (Int.not_le.mpr c45))
                refine pm_iconst (v := 0) hC dX12_pairs_61 ?_
                refine pm_istore (lv' := [(8, (0, 0)), (0, (3, 90)), (1, (0, a1)), (2, (0, a2)), (3, (0, a3)), (4, (0, a4)), (5, (0, a5)), (6, (0, x27)), (7, (0, x29))]) hC dX12_pairs_62 (by decide) rfl ?_
                obtain ⟨B58, hB59, hb40⟩ := pf_loop hb40
                have L61 : ∀ (N63 : Nat) (x47 : Int) (x49 : Int) (V52 : pm_M), (0 ≤ x47 ∧ x47 ≤ 81) → (0 ≤ x49 ∧ x49 ≤ 9) → (x47 ≤ 9 * x29 + x49) → pm_oq pm_qB V52 → pm_fs [110, 111, 112] [42, 43, 44, 45, 46, 47, 48, 49, 51] V0 V52 → V52 90 16 = y1 → pm_h1 V52 → pm_h2 V52 → B38 (x27, x29, V32) = pf_val (.inr ((0 : Int), V0)) B58 (x47, x49, V52) → (Int.toNat (9 - x49)) = N63 → pm_J X 64 [(0, (3, 90)), (1, (0, a1)), (2, (0, a2)), (3, (0, a3)), (4, (0, a4)), (5, (0, a5)), (6, (0, x47)), (7, (0, x29)), (8, (0, x49))] [] 118 V52 := by
                  intro N63
                  induction N63 using Nat.strongRecOn with
                  | _ N63 ih64 =>
                  intro x47 x49 V52 b48 b50 b51 hV53 hF54 e55 hp56 hp57 hb40 hm62
                  have hb60 := congrFun hB59 (x47, x49, V52)
                  refine pm_iload hC 8 dX12_pairs_64 rfl ?_
                  refine pm_aload_n hC 0 (by decide) dX12_pairs_66 rfl ?_
                  refine pm_getf (v := y1) hC 90 fl_X12_220 rfl rfl (by decide) rfl e55 dX12_pairs_67 ?_
                  refine pm_icmp_ge (tgt := 154) hC ⟨by omega, by omega⟩ ⟨by omega, by omega⟩ dX12_pairs_70 (by decide) (fun c65 => ?_) (fun c65 => ?_)
                  · skip
                    replace hb60 := hb60.trans (if_pos c65)
                    obtain ⟨x66, ei67⟩ : ∃ y : Int, x29 + 1 = y := ⟨_, rfl⟩
                    replace hb60 := hb60.trans (pf_let_eq ei67)
                    refine pm_iinc (y := x66) (lv' := [(7, (0, x66)), (0, (3, 90)), (1, (0, a1)), (2, (0, a2)), (3, (0, a3)), (4, (0, a4)), (5, (0, a5)), (6, (0, x47)), (8, (0, x49))]) hC 7 dX12_pairs_154 (by decide) rfl ei67 rfl ?_
                    refine pm_goto (tgt := 52) hC dX12_pairs_157 (by decide) ?_
                    have hb40 := hb40.trans (pf_val_inr hb60)
                    refine pm_lvsub [1, 2, 3, 4, 5, 6, 7, 0] (lv' := [(0, (3, 90)), (1, (0, a1)), (2, (0, a2)), (3, (0, a3)), (4, (0, a4)), (5, (0, a5)), (6, (0, x47)), (7, (0, x66))]) rfl ?_
                    exact ih44 _ (by omega) x47 x66 V52 ⟨by omega, by omega⟩ ⟨by omega, by omega⟩ (by omega) hV53 hF54 e55 hp56 hp57 (hT.trans (pf_val_inl hb40)) rfl
                  · skip
                    replace hb60 := hb60.trans (if_neg (Int.not_le.mpr c65))
                    refine pm_iload hC 7 dX12_pairs_73 rfl ?_
                    refine pm_iload hC 8 dX12_pairs_75 rfl ?_
                    refine pm_icmp_ne (tgt := 83) hC ⟨by omega, by omega⟩ ⟨by omega, by omega⟩ dX12_pairs_77 (by decide) (fun c68 => ?_) (fun c68 => ?_)
                    · skip
                      replace hb60 := hb60.trans (if_pos c68)
                      refine pm_aload_n hC 0 (by decide) dX12_pairs_83 rfl ?_
                      refine pm_bipush (v := 100) hC dX12_pairs_84 (by decide) ?_
                      refine pm_iload_n hC 2 dX12_pairs_86 rfl ?_
                      refine pm_imul hC dX12_pairs_87 ?_
                      refine pm_bipush (v := 10) hC dX12_pairs_88 (by decide) ?_
                      refine pm_iload hC 7 dX12_pairs_90 rfl ?_
                      refine pm_imul hC dX12_pairs_92 ?_
                      refine pm_iadd hC dX12_pairs_93 ?_
                      refine pm_iload hC 8 dX12_pairs_94 rfl ?_
                      refine pm_iadd hC dX12_pairs_96 ?_
                      refine pm_iload_n hC 3 dX12_pairs_97 rfl ?_
                      refine pm_iload hC 4 dX12_pairs_98 rfl ?_
                      refine pm_callV (ci := 12) (as := [(0, (((100 * a2) + (10 * x29)) + x49)), (0, a3), (0, a4)]) (st := []) hC 90 (fB_X12_works (((100 * a2) + (10 * x29)) + x49) a3 a4 ⟨by omega, by omega⟩ ⟨by omega, by omega⟩ ⟨by omega, by omega⟩ (by omega)) lm_X12_376 li_X12_works (by decide) (by decide) rfl rfl rfl (by decide) rfl rfl (Nat.le_of_ble_eq_true rfl) ⟨Nat.le_refl _, Or.inl rfl⟩ dX12_pairs_100 ⟨rfl, hV53, (show ((((100 * a2) + (10 * x29)) + x49)) % 10 < V52 90 16 by omega), (show ((((100 * a2) + (10 * x29)) + x49)) / 10 % 10 < V52 90 16 by omega), hp56⟩ (fun r69 V70 hp71 => ?_)
                      obtain ⟨rfl, hV72, hF73, hq74, hq75, hg76, hg77, hE78⟩ := hp71
                      replace hb60 := hb60.trans (pf_call_eq hE78)
                      change pm_J X 103 [(0, (3, 90)), (1, (0, a1)), (2, (0, a2)), (3, (0, a3)), (4, (0, a4)), (5, (0, a5)), (6, (0, x47)), (7, (0, x29)), (8, (0, x49))] [] 118 V70
                      have hF79 := pm_fs.tr hF54 hF73 (by decide) (by decide)
                      have e80 : V70 90 16 = y1 := by rw [hF73.2 16 (by decide)]; exact e55
                      have hp81 : pm_h1 V70 := (pm_h1.fr hp56 (hF73.2 16 (by decide)) (hF73.1 97 (by decide) (by decide)))
                      have hp82 : pm_h2 V70 := (pm_h2.fr hp57 (hF73.2 16 (by decide)) (hF73.2 21 (by decide)) (hF73.1 99 (by decide) (by decide)))
                      obtain ⟨z83, ez84⟩ : ∃ z, V70 90 42 = z := ⟨_, rfl⟩
                      rw [ez84] at hq74
                      replace hb60 := hb60.trans (pf_let_eq ez84)
                      obtain ⟨z85, ez86⟩ : ∃ z, V70 90 43 = z := ⟨_, rfl⟩
                      rw [ez86] at hq75
                      replace hb60 := hb60.trans (pf_let_eq ez86)
                      refine pm_aload_n hC 0 (by decide) dX12_pairs_103 rfl ?_
                      refine pm_iload_n hC 1 dX12_pairs_104 rfl ?_
                      refine pm_bipush (v := 10) hC dX12_pairs_105 (by decide) ?_
                      refine pm_irem hC ⟨by omega, by omega, by omega⟩ ⟨by decide, by decide, by decide⟩ dX12_pairs_107 ?_
                      have q90 : 1 ≤ V70 90 42 ∧ V70 90 42 ≤ 171 := by (have e : V70 90 42 = z83 := ez84); rw [e]; exact ⟨by omega, by omega⟩
                      have q91 : 1 ≤ V70 90 43 ∧ V70 90 43 ≤ 171 := by (have e : V70 90 43 = z85 := ez86); rw [e]; exact ⟨by omega, by omega⟩
                      refine pm_callV (ci := 12) (as := [(0, (a1 % 10))]) (st := []) hC 90 (fB_X12_weighs (a1 % 10) ⟨by omega, by omega⟩) lm_X12_380 li_X12_weighs (by decide) (by decide) rfl rfl rfl (by decide) rfl rfl (Nat.le_of_ble_eq_true rfl) ⟨Nat.le_refl _, Or.inl rfl⟩ dX12_pairs_108 ⟨rfl, hV72, q90, q91, hg76, hp81, hp82, hg77⟩ (fun r87 V88 hp89 => ?_)
                      obtain ⟨rfl, hV92, hF93, hg94, hE95⟩ := hp89
                      replace hb60 := hb60.trans (pf_call_eq hE95)
                      change pm_J X 111 [(0, (3, 90)), (1, (0, a1)), (2, (0, a2)), (3, (0, a3)), (4, (0, a4)), (5, (0, a5)), (6, (0, x47)), (7, (0, x29)), (8, (0, x49))] [] 118 V88
                      have hF96 := pm_fs.tr hF79 hF93 (by decide) (by decide)
                      have e97 : V88 90 16 = y1 := by rw [hF93.2 16 (by decide)]; exact e80
                      have e98 : V88 90 42 = z83 := by rw [hF93.2 42 (by decide)]; exact ez84
                      have e99 : V88 90 43 = z85 := by rw [hF93.2 43 (by decide)]; exact ez86
                      have hp100 : pm_h1 V88 := (pm_h1.fr hp81 (hF93.2 16 (by decide)) (hF93.1 97 (by decide) (by decide)))
                      have hp101 : pm_h2 V88 := (pm_h2.fr hp82 (hF93.2 16 (by decide)) (hF93.2 21 (by decide)) (hF93.1 99 (by decide) (by decide)))
                      have hp102 : pm_w1 V88 := (pm_w1.fr hg76 (hF93.2 16 (by decide)) (hF93.2 48 (by decide)) (hF93.2 49 (by decide)) (hF93.1 110 (by decide) (by decide)) (hF93.1 111 (by decide) (by decide)))
                      have hp103 : pm_w3 V88 := (pm_w3.fr hg77 (hF93.2 16 (by decide)) (hF93.2 46 (by decide)) (hF93.1 110 (by decide) (by decide)) (hF93.1 111 (by decide) (by decide)))
                      refine pm_aload_n hC 0 (by decide) dX12_pairs_111 rfl ?_
                      refine pm_aload_n hC 0 (by decide) dX12_pairs_112 rfl ?_
                      refine pm_callV (ci := 12) (as := []) (st := [(3, 90)]) hC 90 fB_X12_likeliest lm_X12_393 li_X12_likeliest (by decide) (by decide) rfl rfl rfl (by decide) rfl rfl (Nat.le_of_ble_eq_true rfl) ⟨Nat.le_refl _, Or.inl rfl⟩ dX12_pairs_113 ⟨rfl, hV92⟩ (fun r104 V105 hp106 => ?_)
                      obtain ⟨y107, rfl, b108, rfl, hE109⟩ := hp106
                      replace hb60 := hb60.trans (pf_call_eq hE109)
                      change pm_J X 116 [(0, (3, 90)), (1, (0, a1)), (2, (0, a2)), (3, (0, a3)), (4, (0, a4)), (5, (0, a5)), (6, (0, x47)), (7, (0, x29)), (8, (0, x49))] [(0, y107), (3, 90)] 118 V88
                      refine pm_callV (ci := 12) (as := [(0, y107)]) (st := []) hC 90 (fB_X12_kindOf y107 ⟨by omega, by omega⟩) lm_X12_367 li_X12_kindOf (by decide) (by decide) rfl rfl rfl (by decide) rfl rfl (Nat.le_of_ble_eq_true rfl) ⟨Nat.le_refl _, Or.inl rfl⟩ dX12_pairs_116 ⟨rfl, hV92⟩ (fun r110 V111 hp112 => ?_)
                      obtain ⟨y113, rfl, b114, rfl, hE115⟩ := hp112
                      replace hb60 := hb60.trans (pf_call_eq hE115)
                      change pm_J X 119 [(0, (3, 90)), (1, (0, a1)), (2, (0, a2)), (3, (0, a3)), (4, (0, a4)), (5, (0, a5)), (6, (0, x47)), (7, (0, x29)), (8, (0, x49))] [(0, y113)] 118 V88
                      refine pm_iload_n hC 1 dX12_pairs_119 rfl ?_
                      refine pm_bipush (v := 10) hC dX12_pairs_120 (by decide) ?_
                      refine pm_idiv hC ⟨by omega, by omega, by omega⟩ ⟨by decide, by decide, by decide⟩ dX12_pairs_122 ?_
                      refine pm_icmp_eq (tgt := 129) hC ⟨by omega, by omega⟩ ⟨by omega, by omega⟩ dX12_pairs_123 (by decide) (fun c116 => ?_) (fun c116 => ?_)
                      · skip
                        replace hb60 := hb60.trans (if_pos c116)
                        refine pm_iload hC 6 dX12_pairs_129 rfl ?_
                        refine pm_iload hC 5 dX12_pairs_131 rfl ?_
                        refine pm_icmp_ne (tgt := 145) hC ⟨by omega, by omega⟩ ⟨by omega, by omega⟩ dX12_pairs_133 (by decide) (fun c117 => ?_) (fun c117 => ?_)
                        · skip
                          replace hb60 := hb60.trans (if_pos c117)
                          obtain ⟨x118, ei119⟩ : ∃ y : Int, x47 + 1 = y := ⟨_, rfl⟩
                          replace hb60 := hb60.trans (pf_let_eq ei119)
                          refine pm_iinc (y := x118) (lv' := [(6, (0, x118)), (0, (3, 90)), (1, (0, a1)), (2, (0, a2)), (3, (0, a3)), (4, (0, a4)), (5, (0, a5)), (7, (0, x29)), (8, (0, x49))]) hC 6 dX12_pairs_145 (by decide) rfl ei119 rfl ?_
                          obtain ⟨x120, ei121⟩ : ∃ y : Int, x49 + 1 = y := ⟨_, rfl⟩
                          replace hb60 := hb60.trans (pf_let_eq ei121)
                          refine pm_iinc (y := x120) (lv' := [(8, (0, x120)), (6, (0, x118)), (0, (3, 90)), (1, (0, a1)), (2, (0, a2)), (3, (0, a3)), (4, (0, a4)), (5, (0, a5)), (7, (0, x29))]) hC 8 dX12_pairs_148 (by decide) rfl ei121 rfl ?_
                          refine pm_goto (tgt := 64) hC dX12_pairs_151 (by decide) ?_
                          refine pm_lvsub [2, 3, 4, 5, 6, 7, 1, 8, 0] (lv' := [(0, (3, 90)), (1, (0, a1)), (2, (0, a2)), (3, (0, a3)), (4, (0, a4)), (5, (0, a5)), (6, (0, x118)), (7, (0, x29)), (8, (0, x120))]) rfl ?_
                          exact ih64 _ (by omega) x118 x120 V88 ⟨by omega, by omega⟩ ⟨by omega, by omega⟩ (by omega) hV92 hF96 e97 hp100 hp101 (hb40.trans (pf_val_inl hb60)) rfl
                        · skip
                          replace hb60 := hb60.trans (if_neg (fun q => q c117))
                          refine pm_bipush (v := 10) hC dX12_pairs_136 (by decide) ?_
                          refine pm_iload hC 7 dX12_pairs_138 rfl ?_
                          refine pm_imul hC dX12_pairs_140 ?_
                          refine pm_iload hC 8 dX12_pairs_141 rfl ?_
                          refine pm_iadd hC dX12_pairs_143 ?_
                          have hb40 := hb40.trans (pf_val_inr hb60)
                          have hT := hT.trans (pf_val_inr hb40)
                          exact pm_iret hC hR pm_nar0 ⟨((10 * x29) + x49), rfl, ⟨by omega, by omega⟩, hV92, hF96, hT⟩ dX12_pairs_144
                      · skip
                        replace hb60 := hb60.trans (if_neg c116)
                        refine pm_goto (tgt := 148) hC dX12_pairs_126 (by decide) ?_
                        obtain ⟨x122, ei123⟩ : ∃ y : Int, x49 + 1 = y := ⟨_, rfl⟩
                        replace hb60 := hb60.trans (pf_let_eq ei123)
                        refine pm_iinc (y := x122) (lv' := [(8, (0, x122)), (0, (3, 90)), (1, (0, a1)), (2, (0, a2)), (3, (0, a3)), (4, (0, a4)), (5, (0, a5)), (6, (0, x47)), (7, (0, x29))]) hC 8 dX12_pairs_148 (by decide) rfl ei123 rfl ?_
                        refine pm_goto (tgt := 64) hC dX12_pairs_151 (by decide) ?_
                        refine pm_lvsub [1, 2, 3, 4, 5, 6, 7, 8, 0] (lv' := [(0, (3, 90)), (1, (0, a1)), (2, (0, a2)), (3, (0, a3)), (4, (0, a4)), (5, (0, a5)), (6, (0, x47)), (7, (0, x29)), (8, (0, x122))]) rfl ?_
                        exact ih64 _ (by omega) x47 x122 V88 ⟨by omega, by omega⟩ ⟨by omega, by omega⟩ (by omega) hV92 hF96 e97 hp100 hp101 (hb40.trans (pf_val_inl hb60)) rfl
                    · skip
                      replace hb60 := hb60.trans (if_neg (fun q => q c68))
                      refine pm_goto (tgt := 148) hC dX12_pairs_80 (by decide) ?_
                      obtain ⟨x124, ei125⟩ : ∃ y : Int, x49 + 1 = y := ⟨_, rfl⟩
                      replace hb60 := hb60.trans (pf_let_eq ei125)
                      refine pm_iinc (y := x124) (lv' := [(8, (0, x124)), (0, (3, 90)), (1, (0, a1)), (2, (0, a2)), (3, (0, a3)), (4, (0, a4)), (5, (0, a5)), (6, (0, x47)), (7, (0, x29))]) hC 8 dX12_pairs_148 (by decide) rfl ei125 rfl ?_
                      refine pm_goto (tgt := 64) hC dX12_pairs_151 (by decide) ?_
                      refine pm_lvsub [1, 2, 3, 4, 5, 6, 7, 8, 0] (lv' := [(0, (3, 90)), (1, (0, a1)), (2, (0, a2)), (3, (0, a3)), (4, (0, a4)), (5, (0, a5)), (6, (0, x47)), (7, (0, x29)), (8, (0, x124))]) rfl ?_
                      exact ih64 _ (by omega) x47 x124 V52 ⟨by omega, by omega⟩ ⟨by omega, by omega⟩ (by omega) hV53 hF54 e55 hp56 hp57 (hb40.trans (pf_val_inl hb60)) rfl
                refine pm_lvsub [1, 2, 3, 4, 5, 6, 7, 8, 0] (lv' := [(0, (3, 90)), (1, (0, a1)), (2, (0, a2)), (3, (0, a3)), (4, (0, a4)), (5, (0, a5)), (6, (0, x27)), (7, (0, x29)), (8, (0, 0))]) rfl ?_
                exact L61 _ x27 0 V32 ⟨by omega, by omega⟩ ⟨by decide, by decide⟩ (by omega) hV33 hF34 e35 hp36 hp37 hb40 rfl
            refine pm_lvsub [2, 3, 4, 5, 6, 7, 1, 0] (lv' := [(0, (3, 90)), (1, (0, a1)), (2, (0, a2)), (3, (0, a3)), (4, (0, a4)), (5, (0, a5)), (6, (0, 0)), (7, (0, 0))]) rfl ?_
            exact L41 _ 0 0 V0 ⟨by decide, by decide⟩ ⟨by decide, by decide⟩ (by omega) hV0 (pm_fs.rf (cs := [110, 111, 112]) (fs := [42, 43, 44, 45, 46, 47, 48, 49, 51]) (V := V0)) e2 hn_pm_h1 hn_pm_h2 hT rfl
          · skip
            replace hT := hT.trans (if_neg (fun q => q c26))
            refine pm_iconst (v := (-1)) hC dX12_pairs_44 ?_
            exact pm_iret hC hR pm_nar0 ⟨(-1), rfl, ⟨by omega, by omega⟩, hV0, (pm_fs.rf (cs := [110, 111, 112]) (fs := [42, 43, 44, 45, 46, 47, 48, 49, 51]) (V := V0)), hT⟩ dX12_pairs_45
set_option maxHeartbeats 4000000 in
set_option maxRecDepth 100000 in
theorem fB_X12_third (a1 a2 a3 : Int) (h0 : 0 ≤ a1 ∧ a1 ≤ 999) (h1 : 0 ≤ a2 ∧ a2 ≤ 99) (h2 : (-99) ≤ a3 ∧ a3 ≤ 99) (h3 : a1 % 10 ≤ 8 ∧ a1 / 10 % 10 ≤ 8) : pm_K 4 yX12_third cX12_third 4 (some .int) (fun av V => av = [(3, 90), (0, a1), (0, a2), (0, a3)] ∧ pm_oq pm_qB V ∧ (a1 % 10 < V 90 16) ∧ (a1 / 10 % 10 < V 90 16) ∧ pm_h1 V ∧ pm_h2 V) (fun _ V r V' => ∃ y, r = some (0, y) ∧ ((-2147483648) ≤ y ∧ y ≤ 2147483647) ∧ pm_oq pm_qB V' ∧ pm_fs [110, 111, 112] [42, 43, 44, 45, 46, 47, 48, 49, 51] V V' ∧ F_X12_third a1 a2 a3 V = (y, V')) := by
  refine pm_MT.of (by decide) ⟨Nat.le_refl _, by decide⟩ (fun av V h => by rw [h.1]; exact (by decide : pm_words [(3, 0), (0, 0), (0, 0), (0, 0)] ≤ 4)) ?_
  rintro X av V0 hC - hR ⟨rfl, hV0, hmp0, hmp1, hn_pm_h1, hn_pm_h2⟩
  change pm_J X 0 [(0, (3, 90)), (1, (0, a1)), (2, (0, a2)), (3, (0, a3))] [] 118 V0
  have hT := F_X12_third_eq a1 a2 a3 V0
  obtain ⟨y1, e2⟩ : ∃ y, V0 90 16 = y := ⟨_, rfl⟩
  have b3 := hV0.get 90 16 (lo := 2) (hi := 9) (by decide) (by decide) rfl
  rw [e2] at b3
  replace hT := hT.trans (pf_let_eq e2)
  refine pm_aload_n hC 0 (by decide) dX12_third_0 rfl ?_
  refine pm_iload_n hC 1 dX12_third_1 rfl ?_
  refine pm_iload_n hC 2 dX12_third_2 rfl ?_
  refine pm_iload_n hC 3 dX12_third_3 rfl ?_
  refine pm_callV (ci := 12) (as := [(0, a1), (0, a2), (0, a3)]) (st := []) hC 90 (fB_X12_works a1 a2 a3 ⟨by omega, by omega⟩ ⟨by omega, by omega⟩ ⟨by omega, by omega⟩ (by omega)) lm_X12_376 li_X12_works (by decide) (by decide) rfl rfl rfl (by decide) rfl rfl (Nat.le_of_ble_eq_true rfl) ⟨Nat.le_refl _, Or.inl rfl⟩ dX12_third_4 ⟨rfl, hV0, (show (a1) % 10 < V0 90 16 by omega), (show (a1) / 10 % 10 < V0 90 16 by omega), hn_pm_h1⟩ (fun r4 V5 hp6 => ?_)
  obtain ⟨rfl, hV7, hF8, hq9, hq10, hg11, hg12, hE13⟩ := hp6
  replace hT := hT.trans (pf_call_eq hE13)
  change pm_J X 7 [(0, (3, 90)), (1, (0, a1)), (2, (0, a2)), (3, (0, a3))] [] 118 V5
  have hF14 := pm_fs.tr (pm_fs.rf (cs := [110, 111, 112]) (fs := [42, 43, 44, 45, 46, 47, 48, 49, 51]) (V := V0)) hF8 (by decide) (by decide)
  have e15 : V5 90 16 = y1 := by rw [hF8.2 16 (by decide)]; exact e2
  have hp16 : pm_h1 V5 := (pm_h1.fr hn_pm_h1 (hF8.2 16 (by decide)) (hF8.1 97 (by decide) (by decide)))
  have hp17 : pm_h2 V5 := (pm_h2.fr hn_pm_h2 (hF8.2 16 (by decide)) (hF8.2 21 (by decide)) (hF8.1 99 (by decide) (by decide)))
  obtain ⟨z18, ez19⟩ : ∃ z, V5 90 42 = z := ⟨_, rfl⟩
  rw [ez19] at hq9
  replace hT := hT.trans (pf_let_eq ez19)
  obtain ⟨z20, ez21⟩ : ∃ z, V5 90 43 = z := ⟨_, rfl⟩
  rw [ez21] at hq10
  replace hT := hT.trans (pf_let_eq ez21)
  refine pm_aload_n hC 0 (by decide) dX12_third_7 rfl ?_
  refine pm_iconst (v := 4) hC dX12_third_8 ?_
  have q25 : 1 ≤ V5 90 42 ∧ V5 90 42 ≤ 171 := by (have e : V5 90 42 = z18 := ez19); rw [e]; exact ⟨by omega, by omega⟩
  have q26 : 1 ≤ V5 90 43 ∧ V5 90 43 ≤ 171 := by (have e : V5 90 43 = z20 := ez21); rw [e]; exact ⟨by omega, by omega⟩
  refine pm_callV (ci := 12) (as := [(0, 4)]) (st := []) hC 90 (fB_X12_weighs 4 ⟨by decide, by decide⟩) lm_X12_380 li_X12_weighs (by decide) (by decide) rfl rfl rfl (by decide) rfl rfl (Nat.le_of_ble_eq_true rfl) ⟨Nat.le_refl _, Or.inl rfl⟩ dX12_third_9 ⟨rfl, hV7, q25, q26, hg11, hp16, hp17, hg12⟩ (fun r22 V23 hp24 => ?_)
  obtain ⟨rfl, hV27, hF28, hg29, hE30⟩ := hp24
  replace hT := hT.trans (pf_call_eq hE30)
  change pm_J X 12 [(0, (3, 90)), (1, (0, a1)), (2, (0, a2)), (3, (0, a3))] [] 118 V23
  have hF31 := pm_fs.tr hF14 hF28 (by decide) (by decide)
  have e32 : V23 90 16 = y1 := by rw [hF28.2 16 (by decide)]; exact e15
  have e33 : V23 90 42 = z18 := by rw [hF28.2 42 (by decide)]; exact ez19
  have e34 : V23 90 43 = z20 := by rw [hF28.2 43 (by decide)]; exact ez21
  have hp35 : pm_h1 V23 := (pm_h1.fr hp16 (hF28.2 16 (by decide)) (hF28.1 97 (by decide) (by decide)))
  have hp36 : pm_h2 V23 := (pm_h2.fr hp17 (hF28.2 16 (by decide)) (hF28.2 21 (by decide)) (hF28.1 99 (by decide) (by decide)))
  have hp37 : pm_w1 V23 := (pm_w1.fr hg11 (hF28.2 16 (by decide)) (hF28.2 48 (by decide)) (hF28.2 49 (by decide)) (hF28.1 110 (by decide) (by decide)) (hF28.1 111 (by decide) (by decide)))
  have hp38 : pm_w3 V23 := (pm_w3.fr hg12 (hF28.2 16 (by decide)) (hF28.2 46 (by decide)) (hF28.1 110 (by decide) (by decide)) (hF28.1 111 (by decide) (by decide)))
  refine pm_aload_n hC 0 (by decide) dX12_third_12 rfl ?_
  refine pm_iconst (v := 3) hC dX12_third_13 ?_
  refine pm_callV (ci := 12) (as := [(0, 3)]) (st := []) hC 90 (fB_X12_chanceOfKind 3 ⟨by decide, by decide⟩) lm_X12_390 li_X12_chanceOfKind (by decide) (by decide) rfl rfl rfl (by decide) rfl rfl (Nat.le_of_ble_eq_true rfl) ⟨Nat.le_refl _, Or.inl rfl⟩ dX12_third_14 ⟨rfl, hV27, hg29⟩ (fun r39 V40 hp41 => ?_)
  obtain ⟨y42, rfl, b43, rfl, hE44⟩ := hp41
  replace hT := hT.trans (pf_call_eq hE44)
  change pm_J X 17 [(0, (3, 90)), (1, (0, a1)), (2, (0, a2)), (3, (0, a3))] [(0, y42)] 118 V23
  exact pm_iret hC hR pm_nar0 ⟨y42, rfl, ⟨by omega, by omega⟩, hV27, hF31, hT⟩ dX12_third_17
set_option maxHeartbeats 4000000 in
set_option maxRecDepth 100000 in
theorem fB_X12_hump (a1 a2 a3 : Int) (h0 : (-2147483648) ≤ a1 ∧ a1 ≤ 2147483647) (h1 : (-2147483648) ≤ a2 ∧ a2 ≤ 2147483647) (h2 : (-2147483648) ≤ a3 ∧ a3 ≤ 2147483647) : pm_K 5 yX12_hump cX12_hump 6 (some .int) (fun av V => av = [(3, 90), (0, a1), (0, a2), (0, a3)] ∧ pm_oq pm_qB V ∧ pm_h1 V ∧ pm_h2 V) (fun _ V r V' => ∃ y, r = some (0, y) ∧ ((-1) ≤ y ∧ y ≤ 99) ∧ pm_oq pm_qB V' ∧ pm_fs [110, 111, 112] [42, 43, 44, 45, 46, 47, 48, 49, 51] V V' ∧ F_X12_hump a1 a2 a3 V = (y, V')) := by
  refine pm_MT.of (by decide) ⟨Nat.le_refl _, by decide⟩ (fun av V h => by rw [h.1]; exact (by decide : pm_words [(3, 0), (0, 0), (0, 0), (0, 0)] ≤ 6)) ?_
  rintro X av V0 hC - hR ⟨rfl, hV0, hn_pm_h1, hn_pm_h2⟩
  change pm_J X 0 [(0, (3, 90)), (1, (0, a1)), (2, (0, a2)), (3, (0, a3))] [] 118 V0
  have hT := F_X12_hump_eq a1 a2 a3 V0
  obtain ⟨y1, e2⟩ : ∃ y, V0 90 16 = y := ⟨_, rfl⟩
  have b3 := hV0.get 90 16 (lo := 2) (hi := 9) (by decide) (by decide) rfl
  rw [e2] at b3
  replace hT := hT.trans (pf_let_eq e2)
  refine pm_aload_n hC 0 (by decide) dX12_hump_0 rfl ?_
  refine pm_iload_n hC 1 dX12_hump_1 rfl ?_
  refine pm_iload_n hC 2 dX12_hump_2 rfl ?_
  refine pm_iconst (v := 0) hC dX12_hump_3 ?_
  refine pm_callV (ci := 12) (as := [(0, a1), (0, a2), (0, 0)]) (st := []) hC 90 (fB_X12_isTrial a1 a2 0 ⟨by omega, by omega⟩ ⟨by omega, by omega⟩ ⟨by decide, by decide⟩) lm_X12_373 li_X12_isTrial (by decide) (by decide) rfl rfl rfl (by decide) rfl rfl (Nat.le_of_ble_eq_true rfl) ⟨Nat.le_refl _, Or.inl rfl⟩ dX12_hump_4 ⟨rfl, hV0⟩ (fun r4 V5 hp6 => ?_)
  obtain ⟨y7, rfl, b8, rfl, hE9⟩ := hp6
  replace hT := hT.trans (pf_call_eq hE9)
  change pm_J X 7 [(0, (3, 90)), (1, (0, a1)), (2, (0, a2)), (3, (0, a3))] [(0, y7)] 118 V0
  refine pm_if_eq (tgt := 19) hC ⟨by omega, by omega⟩ dX12_hump_7 (by decide) (fun c10 => ?_) (fun c10 => ?_)
  · skip
    replace hT := hT.trans (if_pos c10)
    refine pm_iconst (v := (-1)) hC dX12_hump_19 ?_
    exact pm_iret hC hR pm_nar0 ⟨(-1), rfl, ⟨by omega, by omega⟩, hV0, (pm_fs.rf (cs := [110, 111, 112]) (fs := [42, 43, 44, 45, 46, 47, 48, 49, 51]) (V := V0)), hT⟩ dX12_hump_20
  · skip
    replace hT := hT.trans (if_neg c10)
    refine pm_iload_n hC 3 dX12_hump_10 rfl ?_
    refine pm_iconst (v := 0) hC dX12_hump_11 ?_
    refine pm_iconst (v := 1) hC dX12_hump_12 ?_
    refine pm_callS (as := [(0, a3), (0, 0), (0, 1)]) (st := []) hC (fB_X12_in a3 0 1 ⟨by omega, by omega⟩ ⟨by decide, by decide⟩ ⟨by decide, by decide⟩) lm_X12_98 ls_X12_in (by decide) (by decide) rfl rfl (Nat.le_of_ble_eq_true rfl) ⟨Nat.le_refl _, Or.inl rfl⟩ dX12_hump_13 ⟨rfl, hV0⟩ (fun r11 V12 hp13 => ?_)
    obtain ⟨y14, rfl, b15, rfl, hE16⟩ := hp13
    replace hT := hT.trans (pf_call_eq hE16)
    change pm_J X 16 [(0, (3, 90)), (1, (0, a1)), (2, (0, a2)), (3, (0, a3))] [(0, y14)] 118 V0
    refine pm_if_ne (tgt := 21) hC ⟨by omega, by omega⟩ dX12_hump_16 (by decide) (fun c17 => ?_) (fun c17 => ?_)
    · skip
      replace hT := hT.trans (if_pos c17)
      refine pm_aload_n hC 0 (by decide) dX12_hump_21 rfl ?_
      refine pm_iload_n hC 1 dX12_hump_22 rfl ?_
      refine pm_iload_n hC 2 dX12_hump_23 rfl ?_
      refine pm_iconst (v := 0) hC dX12_hump_24 ?_
      refine pm_callV (ci := 12) (as := [(0, a1), (0, a2), (0, 0)]) (st := []) hC 90 (fB_X12_third a1 a2 0 ⟨by omega, by omega⟩ ⟨by omega, by omega⟩ ⟨by decide, by decide⟩ (by omega)) lm_X12_436 li_X12_third (by decide) (by decide) rfl rfl rfl (by decide) rfl rfl (Nat.le_of_ble_eq_true rfl) ⟨Nat.le_refl _, Or.inl rfl⟩ dX12_hump_25 ⟨rfl, hV0, (show (a1) % 10 < V0 90 16 by omega), (show (a1) / 10 % 10 < V0 90 16 by omega), hn_pm_h1, hn_pm_h2⟩ (fun r18 V19 hp20 => ?_)
      obtain ⟨y21, rfl, b22, hV23, hF24, hE25⟩ := hp20
      replace hT := hT.trans (pf_call_eq hE25)
      change pm_J X 28 [(0, (3, 90)), (1, (0, a1)), (2, (0, a2)), (3, (0, a3))] [(0, y21)] 118 V19
      have hF26 := pm_fs.tr (pm_fs.rf (cs := [110, 111, 112]) (fs := [42, 43, 44, 45, 46, 47, 48, 49, 51]) (V := V0)) hF24 (by decide) (by decide)
      have e27 : V19 90 16 = y1 := by rw [hF24.2 16 (by decide)]; exact e2
      have hp28 : pm_h1 V19 := (pm_h1.fr hn_pm_h1 (hF24.2 16 (by decide)) (hF24.1 97 (by decide) (by decide)))
      have hp29 : pm_h2 V19 := (pm_h2.fr hn_pm_h2 (hF24.2 16 (by decide)) (hF24.2 21 (by decide)) (hF24.1 99 (by decide) (by decide)))
      refine pm_istore (lv' := [(4, (0, y21)), (0, (3, 90)), (1, (0, a1)), (2, (0, a2)), (3, (0, a3))]) hC dX12_hump_28 (by decide) rfl ?_
      refine pm_iload hC 0 dX12_hump_30 rfl ?_
      refine pm_if_ne (tgt := 37) hC ⟨by omega, by omega⟩ dX12_hump_32 (by decide) (fun c30 => ?_) (fun c30 => ?_)
      · skip
        replace hT := hT.trans (if_pos c30)
        refine pm_iconst (v := 0) hC dX12_hump_37 ?_
        refine pm_istore (lv' := [(5, (0, 0)), (4, (0, y21)), (0, (3, 90)), (1, (0, a1)), (2, (0, a2)), (3, (0, a3))]) hC dX12_hump_38 (by decide) rfl ?_
        obtain ⟨B39, hB40, hT⟩ := pf_loop hT
        have L42 : ∀ (N44 : Nat) (x31 : Int) (V33 : pm_M), (0 ≤ x31 ∧ x31 ≤ 99) → pm_oq pm_qB V33 → pm_fs [110, 111, 112] [42, 43, 44, 45, 46, 47, 48, 49, 51] V0 V33 → V33 90 16 = y1 → pm_h1 V33 → pm_h2 V33 → F_X12_hump a1 a2 a3 V0 = pf_val ((0 : Int), V0) B39 (x31, V33) → (Int.toNat (99 - x31)) = N44 → pm_J X 40 [(0, (3, 90)), (1, (0, a1)), (2, (0, a2)), (3, (0, a3)), (4, (0, y21)), (5, (0, x31))] [] 118 V33 := by
          intro N44
          induction N44 using Nat.strongRecOn with
          | _ N44 ih45 =>
          intro x31 V33 b32 hV34 hF35 e36 hp37 hp38 hT hm43
          have hb41 := congrFun hB40 (x31, V33)
          refine pm_iload hC 5 dX12_hump_40 rfl ?_
          refine pm_bipush (v := 99) hC dX12_hump_42 (by decide) ?_
          refine pm_icmp_ge (tgt := 82) hC ⟨by omega, by omega⟩ ⟨by decide, by decide⟩ dX12_hump_44 (by decide) (fun c46 => ?_) (fun c46 => ?_)
          · skip
            replace hb41 := hb41.trans (if_pos c46)
            refine pm_iload hC 5 dX12_hump_82 rfl ?_
            have hT := hT.trans (pf_val_inr hb41)
            exact pm_iret hC hR pm_nar0 ⟨x31, rfl, ⟨by omega, by omega⟩, hV34, hF35, hT⟩ dX12_hump_84
          · skip
            replace hb41 := hb41.trans (if_neg (Int.not_le.mpr c46))
            refine pm_iconst (v := 2) hC dX12_hump_47 ?_
            refine pm_aload_n hC 0 (by decide) dX12_hump_48 rfl ?_
            refine pm_iload_n hC 1 dX12_hump_49 rfl ?_
            refine pm_iload_n hC 2 dX12_hump_50 rfl ?_
            refine pm_iload_n hC 3 dX12_hump_51 rfl ?_
            refine pm_if_ne (tgt := 62) hC ⟨by omega, by omega⟩ dX12_hump_52 (by decide) (fun c47 => ?_) (fun c47 => ?_)
            · skip
              replace hb41 := hb41.trans (if_pos c47)
              refine pm_iload hC 5 dX12_hump_62 rfl ?_
              refine pm_ineg hC dX12_hump_64 ?_
              refine pm_iconst (v := 1) hC dX12_hump_65 ?_
              refine pm_isub hC dX12_hump_66 ?_
              refine pm_callV (ci := 12) (as := [(0, a1), (0, a2), (0, ((-x31) - 1))]) (st := [(0, 2)]) hC 90 (fB_X12_third a1 a2 ((-x31) - 1) ⟨by omega, by omega⟩ ⟨by omega, by omega⟩ ⟨by omega, by omega⟩ (by omega)) lm_X12_436 li_X12_third (by decide) (by decide) rfl rfl rfl (by decide) rfl rfl (Nat.le_of_ble_eq_true rfl) ⟨Nat.le_refl _, Or.inl rfl⟩ dX12_hump_67 ⟨rfl, hV34, (show (a1) % 10 < V33 90 16 by omega), (show (a1) / 10 % 10 < V33 90 16 by omega), hp37, hp38⟩ (fun r48 V49 hp50 => ?_)
              obtain ⟨y51, rfl, b52, hV53, hF54, hE55⟩ := hp50
              replace hb41 := hb41.trans (pf_call_eq hE55)
              change pm_J X 70 [(0, (3, 90)), (1, (0, a1)), (2, (0, a2)), (3, (0, a3)), (4, (0, y21)), (5, (0, x31))] [(0, y51), (0, 2)] 118 V49
              have hF56 := pm_fs.tr hF35 hF54 (by decide) (by decide)
              have e57 : V49 90 16 = y1 := by rw [hF54.2 16 (by decide)]; exact e36
              have hp58 : pm_h1 V49 := (pm_h1.fr hp37 (hF54.2 16 (by decide)) (hF54.1 97 (by decide) (by decide)))
              have hp59 : pm_h2 V49 := (pm_h2.fr hp38 (hF54.2 16 (by decide)) (hF54.2 21 (by decide)) (hF54.1 99 (by decide) (by decide)))
              refine pm_imul hC dX12_hump_70 ?_
              refine pm_wr hC (fun y60 hw62 b61 => ?_)
              replace hb41 := hb41.trans (pf_let_eq hw62)
              have b61 := And.intro b61.1 b61.2
              refine pm_iload hC 4 dX12_hump_71 rfl ?_
              refine pm_icmp_lt (tgt := 82) hC ⟨by omega, by omega⟩ ⟨by omega, by omega⟩ dX12_hump_73 (by decide) (fun c63 => ?_) (fun c63 => ?_)
              · skip
                replace hb41 := hb41.trans (if_pos c63)
                refine pm_iload hC 5 dX12_hump_82 rfl ?_
                have hT := hT.trans (pf_val_inr hb41)
                exact pm_iret hC hR pm_nar0 ⟨x31, rfl, ⟨by omega, by omega⟩, hV53, hF56, hT⟩ dX12_hump_84
              · skip
                replace hb41 := hb41.trans (if_neg (Int.not_lt.mpr c63))
                obtain ⟨x64, ei65⟩ : ∃ y : Int, x31 + 1 = y := ⟨_, rfl⟩
                replace hb41 := hb41.trans (pf_let_eq ei65)
                refine pm_iinc (y := x64) (lv' := [(5, (0, x64)), (0, (3, 90)), (1, (0, a1)), (2, (0, a2)), (3, (0, a3)), (4, (0, y21))]) hC 5 dX12_hump_76 (by decide) rfl ei65 rfl ?_
                refine pm_goto (tgt := 40) hC dX12_hump_79 (by decide) ?_
                refine pm_lvsub [1, 2, 3, 4, 5, 0] (lv' := [(0, (3, 90)), (1, (0, a1)), (2, (0, a2)), (3, (0, a3)), (4, (0, y21)), (5, (0, x64))]) rfl ?_
                exact ih45 _ (by omega) x64 V49 ⟨by omega, by omega⟩ hV53 hF56 e57 hp58 hp59 (hT.trans (pf_val_inl hb41)) rfl
            · skip
              replace hb41 := hb41.trans (if_neg (fun q => q c47))
              refine pm_iload hC 5 dX12_hump_55 rfl ?_
              refine pm_iconst (v := 1) hC dX12_hump_57 ?_
              refine pm_iadd hC dX12_hump_58 ?_
              refine pm_goto (tgt := 67) hC dX12_hump_59 (by decide) ?_
              refine pm_callV (ci := 12) (as := [(0, a1), (0, a2), (0, (x31 + 1))]) (st := [(0, 2)]) hC 90 (fB_X12_third a1 a2 (x31 + 1) ⟨by omega, by omega⟩ ⟨by omega, by omega⟩ ⟨by omega, by omega⟩ (by omega)) lm_X12_436 li_X12_third (by decide) (by decide) rfl rfl rfl (by decide) rfl rfl (Nat.le_of_ble_eq_true rfl) ⟨Nat.le_refl _, Or.inl rfl⟩ dX12_hump_67 ⟨rfl, hV34, (show (a1) % 10 < V33 90 16 by omega), (show (a1) / 10 % 10 < V33 90 16 by omega), hp37, hp38⟩ (fun r66 V67 hp68 => ?_)
              obtain ⟨y69, rfl, b70, hV71, hF72, hE73⟩ := hp68
              replace hb41 := hb41.trans (pf_call_eq hE73)
              change pm_J X 70 [(0, (3, 90)), (1, (0, a1)), (2, (0, a2)), (3, (0, a3)), (4, (0, y21)), (5, (0, x31))] [(0, y69), (0, 2)] 118 V67
              have hF74 := pm_fs.tr hF35 hF72 (by decide) (by decide)
              have e75 : V67 90 16 = y1 := by rw [hF72.2 16 (by decide)]; exact e36
              have hp76 : pm_h1 V67 := (pm_h1.fr hp37 (hF72.2 16 (by decide)) (hF72.1 97 (by decide) (by decide)))
              have hp77 : pm_h2 V67 := (pm_h2.fr hp38 (hF72.2 16 (by decide)) (hF72.2 21 (by decide)) (hF72.1 99 (by decide) (by decide)))
              refine pm_imul hC dX12_hump_70 ?_
              refine pm_wr hC (fun y78 hw80 b79 => ?_)
              replace hb41 := hb41.trans (pf_let_eq hw80)
              have b79 := And.intro b79.1 b79.2
              refine pm_iload hC 4 dX12_hump_71 rfl ?_
              refine pm_icmp_lt (tgt := 82) hC ⟨by omega, by omega⟩ ⟨by omega, by omega⟩ dX12_hump_73 (by decide) (fun c81 => ?_) (fun c81 => ?_)
              · skip
                replace hb41 := hb41.trans (if_pos c81)
                refine pm_iload hC 5 dX12_hump_82 rfl ?_
                have hT := hT.trans (pf_val_inr hb41)
                exact pm_iret hC hR pm_nar0 ⟨x31, rfl, ⟨by omega, by omega⟩, hV71, hF74, hT⟩ dX12_hump_84
              · skip
                replace hb41 := hb41.trans (if_neg (Int.not_lt.mpr c81))
                obtain ⟨x82, ei83⟩ : ∃ y : Int, x31 + 1 = y := ⟨_, rfl⟩
                replace hb41 := hb41.trans (pf_let_eq ei83)
                refine pm_iinc (y := x82) (lv' := [(5, (0, x82)), (0, (3, 90)), (1, (0, a1)), (2, (0, a2)), (3, (0, a3)), (4, (0, y21))]) hC 5 dX12_hump_76 (by decide) rfl ei83 rfl ?_
                refine pm_goto (tgt := 40) hC dX12_hump_79 (by decide) ?_
                refine pm_lvsub [1, 2, 3, 4, 5, 0] (lv' := [(0, (3, 90)), (1, (0, a1)), (2, (0, a2)), (3, (0, a3)), (4, (0, y21)), (5, (0, x82))]) rfl ?_
                exact ih45 _ (by omega) x82 V67 ⟨by omega, by omega⟩ hV71 hF74 e75 hp76 hp77 (hT.trans (pf_val_inl hb41)) rfl
        refine pm_lvsub [2, 3, 4, 5, 1, 0] (lv' := [(0, (3, 90)), (1, (0, a1)), (2, (0, a2)), (3, (0, a3)), (4, (0, y21)), (5, (0, 0))]) rfl ?_
        exact L42 _ 0 V19 ⟨by decide, by decide⟩ hV23 hF26 e27 hp28 hp29 hT rfl
      · skip
        replace hT := hT.trans (if_neg (fun q => q c30))
        refine pm_iconst (v := (-1)) hC dX12_hump_35 ?_
        exact pm_iret hC hR pm_nar0 ⟨(-1), rfl, ⟨by omega, by omega⟩, hV23, hF26, hT⟩ dX12_hump_36
    · skip
      replace hT := hT.trans (if_neg (fun q => q c17))
      refine pm_iconst (v := (-1)) hC dX12_hump_19 ?_
      exact pm_iret hC hR pm_nar0 ⟨(-1), rfl, ⟨by omega, by omega⟩, hV0, (pm_fs.rf (cs := [110, 111, 112]) (fs := [42, 43, 44, 45, 46, 47, 48, 49, 51]) (V := V0)), hT⟩ dX12_hump_20
set_option maxHeartbeats 4000000 in
set_option maxRecDepth 100000 in
theorem fB_X12_rightOf (a1 a2 a3 : Int) (h0 : 0 ≤ a1 ∧ a1 ≤ 6) (h1 : 0 ≤ a2 ∧ a2 ≤ 9) (h2 : 0 ≤ a3 ∧ a3 ≤ 99) : pm_K 4 yX12_rightOf cX12_rightOf 6 (some .int) (fun av V => av = [(3, 90), (0, a1), (0, a2), (0, a3)] ∧ pm_oq pm_qB V ∧ pm_h1 V ∧ pm_h2 V) (fun _ V r V' => ∃ y, r = some (0, y) ∧ ((-2147483648) ≤ y ∧ y ≤ 2147483647) ∧ pm_oq pm_qB V' ∧ pm_fs [110, 111, 112] [42, 43, 44, 45, 46, 47, 48, 49, 51] V V' ∧ F_X12_rightOf a1 a2 a3 V = (y, V')) := by
  refine pm_MT.of (by decide) ⟨Nat.le_refl _, by decide⟩ (fun av V h => by rw [h.1]; exact (by decide : pm_words [(3, 0), (0, 0), (0, 0), (0, 0)] ≤ 6)) ?_
  rintro X av V0 hC - hR ⟨rfl, hV0, hn_pm_h1, hn_pm_h2⟩
  change pm_J X 0 [(0, (3, 90)), (1, (0, a1)), (2, (0, a2)), (3, (0, a3))] [] 118 V0
  have hT := F_X12_rightOf_eq a1 a2 a3 V0
  obtain ⟨y1, e2⟩ : ∃ y, V0 90 16 = y := ⟨_, rfl⟩
  have b3 := hV0.get 90 16 (lo := 2) (hi := 9) (by decide) (by decide) rfl
  rw [e2] at b3
  replace hT := hT.trans (pf_let_eq e2)
  refine pm_iconst (v := 0) hC dX12_rightOf_0 ?_
  refine pm_istore (lv' := [(4, (0, 0)), (0, (3, 90)), (1, (0, a1)), (2, (0, a2)), (3, (0, a3))]) hC dX12_rightOf_1 (by decide) rfl ?_
  refine pm_iconst (v := 0) hC dX12_rightOf_3 ?_
  refine pm_istore (lv' := [(5, (0, 0)), (4, (0, 0)), (0, (3, 90)), (1, (0, a1)), (2, (0, a2)), (3, (0, a3))]) hC dX12_rightOf_4 (by decide) rfl ?_
  obtain ⟨B14, hB15, hT⟩ := pf_loop hT
  have L17 : ∀ (N19 : Nat) (x4 : Int) (x6 : Int) (V8 : pm_M), ((-2147483648) ≤ x4 ∧ x4 ≤ 2147483647) → (0 ≤ x6 ∧ x6 ≤ 9) → pm_oq pm_qB V8 → pm_fs [110, 111, 112] [42, 43, 44, 45, 46, 47, 48, 49, 51] V0 V8 → V8 90 16 = y1 → pm_h1 V8 → pm_h2 V8 → F_X12_rightOf a1 a2 a3 V0 = pf_val ((0 : Int), V0) B14 (x4, x6, V8) → (Int.toNat (9 - x6)) = N19 → pm_J X 6 [(0, (3, 90)), (1, (0, a1)), (2, (0, a2)), (3, (0, a3)), (4, (0, x4)), (5, (0, x6))] [] 118 V8 := by
    intro N19
    induction N19 using Nat.strongRecOn with
    | _ N19 ih20 =>
    intro x4 x6 V8 b5 b7 hV9 hF10 e11 hp12 hp13 hT hm18
    have hb16 := congrFun hB15 (x4, x6, V8)
    refine pm_iload hC 5 dX12_rightOf_6 rfl ?_
    refine pm_aload_n hC 0 (by decide) dX12_rightOf_8 rfl ?_
    refine pm_getf (v := y1) hC 90 fl_X12_220 rfl rfl (by decide) rfl e11 dX12_rightOf_9 ?_
    refine pm_icmp_ge (tgt := 53) hC ⟨by omega, by omega⟩ ⟨by omega, by omega⟩ dX12_rightOf_12 (by decide) (fun c21 => ?_) (fun c21 => ?_)
    · skip
      replace hb16 := hb16.trans (if_pos c21)
      refine pm_iload hC 4 dX12_rightOf_53 rfl ?_
      have hT := hT.trans (pf_val_inr hb16)
      exact pm_iret hC hR pm_nar0 ⟨x4, rfl, ⟨by omega, by omega⟩, hV9, hF10, hT⟩ dX12_rightOf_55
    · skip
      replace hb16 := hb16.trans (if_neg (Int.not_le.mpr c21))
      refine pm_aload_n hC 0 (by decide) dX12_rightOf_15 rfl ?_
      refine pm_bipush (v := 100) hC dX12_rightOf_16 (by decide) ?_
      refine pm_iload_n hC 2 dX12_rightOf_18 rfl ?_
      refine pm_imul hC dX12_rightOf_19 ?_
      refine pm_bipush (v := 11) hC dX12_rightOf_20 (by decide) ?_
      refine pm_iload hC 5 dX12_rightOf_22 rfl ?_
      refine pm_imul hC dX12_rightOf_24 ?_
      refine pm_iadd hC dX12_rightOf_25 ?_
      refine pm_iload_n hC 3 dX12_rightOf_26 rfl ?_
      refine pm_iconst (v := 0) hC dX12_rightOf_27 ?_
      have hw11 := pm_w11 (a := a2) (s := x6) (by omega)
      refine pm_callV (ci := 12) (as := [(0, ((100 * a2) + (11 * x6))), (0, a3), (0, 0)]) (st := []) hC 90 (fB_X12_works ((100 * a2) + (11 * x6)) a3 0 ⟨by omega, by omega⟩ ⟨by omega, by omega⟩ ⟨by decide, by decide⟩ (by omega)) lm_X12_376 li_X12_works (by decide) (by decide) rfl rfl rfl (by decide) rfl rfl (Nat.le_of_ble_eq_true rfl) ⟨Nat.le_refl _, Or.inl rfl⟩ dX12_rightOf_28 ⟨rfl, hV9, (show (((100 * a2) + (11 * x6))) % 10 < V8 90 16 by omega), (show (((100 * a2) + (11 * x6))) / 10 % 10 < V8 90 16 by omega), hp12⟩ (fun r22 V23 hp24 => ?_)
      obtain ⟨rfl, hV25, hF26, hq27, hq28, hg29, hg30, hE31⟩ := hp24
      replace hb16 := hb16.trans (pf_call_eq hE31)
      change pm_J X 31 [(0, (3, 90)), (1, (0, a1)), (2, (0, a2)), (3, (0, a3)), (4, (0, x4)), (5, (0, x6))] [] 118 V23
      have hF32 := pm_fs.tr hF10 hF26 (by decide) (by decide)
      have e33 : V23 90 16 = y1 := by rw [hF26.2 16 (by decide)]; exact e11
      have hp34 : pm_h1 V23 := (pm_h1.fr hp12 (hF26.2 16 (by decide)) (hF26.1 97 (by decide) (by decide)))
      have hp35 : pm_h2 V23 := (pm_h2.fr hp13 (hF26.2 16 (by decide)) (hF26.2 21 (by decide)) (hF26.1 99 (by decide) (by decide)))
      obtain ⟨z36, ez37⟩ : ∃ z, V23 90 42 = z := ⟨_, rfl⟩
      rw [ez37] at hq27
      replace hb16 := hb16.trans (pf_let_eq ez37)
      obtain ⟨z38, ez39⟩ : ∃ z, V23 90 43 = z := ⟨_, rfl⟩
      rw [ez39] at hq28
      replace hb16 := hb16.trans (pf_let_eq ez39)
      refine pm_aload_n hC 0 (by decide) dX12_rightOf_31 rfl ?_
      refine pm_iload_n hC 1 dX12_rightOf_32 rfl ?_
      have q43 : 1 ≤ V23 90 42 ∧ V23 90 42 ≤ 171 := by (have e : V23 90 42 = z36 := ez37); rw [e]; exact ⟨by omega, by omega⟩
      have q44 : 1 ≤ V23 90 43 ∧ V23 90 43 ≤ 171 := by (have e : V23 90 43 = z38 := ez39); rw [e]; exact ⟨by omega, by omega⟩
      refine pm_callV (ci := 12) (as := [(0, a1)]) (st := []) hC 90 (fB_X12_weighs a1 ⟨by omega, by omega⟩) lm_X12_380 li_X12_weighs (by decide) (by decide) rfl rfl rfl (by decide) rfl rfl (Nat.le_of_ble_eq_true rfl) ⟨Nat.le_refl _, Or.inl rfl⟩ dX12_rightOf_33 ⟨rfl, hV25, q43, q44, hg29, hp34, hp35, hg30⟩ (fun r40 V41 hp42 => ?_)
      obtain ⟨rfl, hV45, hF46, hg47, hE48⟩ := hp42
      replace hb16 := hb16.trans (pf_call_eq hE48)
      change pm_J X 36 [(0, (3, 90)), (1, (0, a1)), (2, (0, a2)), (3, (0, a3)), (4, (0, x4)), (5, (0, x6))] [] 118 V41
      have hF49 := pm_fs.tr hF32 hF46 (by decide) (by decide)
      have e50 : V41 90 16 = y1 := by rw [hF46.2 16 (by decide)]; exact e33
      have e51 : V41 90 42 = z36 := by rw [hF46.2 42 (by decide)]; exact ez37
      have e52 : V41 90 43 = z38 := by rw [hF46.2 43 (by decide)]; exact ez39
      have hp53 : pm_h1 V41 := (pm_h1.fr hp34 (hF46.2 16 (by decide)) (hF46.1 97 (by decide) (by decide)))
      have hp54 : pm_h2 V41 := (pm_h2.fr hp35 (hF46.2 16 (by decide)) (hF46.2 21 (by decide)) (hF46.1 99 (by decide) (by decide)))
      have hp55 : pm_w1 V41 := (pm_w1.fr hg29 (hF46.2 16 (by decide)) (hF46.2 48 (by decide)) (hF46.2 49 (by decide)) (hF46.1 110 (by decide) (by decide)) (hF46.1 111 (by decide) (by decide)))
      have hp56 : pm_w3 V41 := (pm_w3.fr hg30 (hF46.2 16 (by decide)) (hF46.2 46 (by decide)) (hF46.1 110 (by decide) (by decide)) (hF46.1 111 (by decide) (by decide)))
      refine pm_iload hC 4 dX12_rightOf_36 rfl ?_
      refine pm_aload_n hC 0 (by decide) dX12_rightOf_38 rfl ?_
      refine pm_iload hC 5 dX12_rightOf_39 rfl ?_
      refine pm_callV (ci := 12) (as := [(0, x6)]) (st := [(0, x4)]) hC 90 (fB_X12_chanceOf x6 ⟨by omega, by omega⟩) lm_X12_387 li_X12_chanceOf (by decide) (by decide) rfl rfl rfl (by decide) rfl rfl (Nat.le_of_ble_eq_true rfl) ⟨Nat.le_refl _, Or.inl rfl⟩ dX12_rightOf_41 ⟨rfl, hV45, hg47⟩ (fun r57 V58 hp59 => ?_)
      obtain ⟨y60, rfl, b61, rfl, hE62⟩ := hp59
      replace hb16 := hb16.trans (pf_call_eq hE62)
      change pm_J X 44 [(0, (3, 90)), (1, (0, a1)), (2, (0, a2)), (3, (0, a3)), (4, (0, x4)), (5, (0, x6))] [(0, y60), (0, x4)] 118 V41
      refine pm_iadd hC dX12_rightOf_44 ?_
      refine pm_wr hC (fun y63 hw65 b64 => ?_)
      replace hb16 := hb16.trans (pf_let_eq hw65)
      have b64 := And.intro b64.1 b64.2
      refine pm_istore (lv' := [(4, (0, y63)), (0, (3, 90)), (1, (0, a1)), (2, (0, a2)), (3, (0, a3)), (5, (0, x6))]) hC dX12_rightOf_45 (by decide) rfl ?_
      obtain ⟨x66, ei67⟩ : ∃ y : Int, x6 + 1 = y := ⟨_, rfl⟩
      replace hb16 := hb16.trans (pf_let_eq ei67)
      refine pm_iinc (y := x66) (lv' := [(5, (0, x66)), (4, (0, y63)), (0, (3, 90)), (1, (0, a1)), (2, (0, a2)), (3, (0, a3))]) hC 5 dX12_rightOf_47 (by decide) rfl ei67 rfl ?_
      refine pm_goto (tgt := 6) hC dX12_rightOf_50 (by decide) ?_
      refine pm_lvsub [2, 3, 4, 5, 1, 0] (lv' := [(0, (3, 90)), (1, (0, a1)), (2, (0, a2)), (3, (0, a3)), (4, (0, y63)), (5, (0, x66))]) rfl ?_
      exact ih20 _ (by omega) y63 x66 V41 ⟨by omega, by omega⟩ ⟨by omega, by omega⟩ hV45 hF49 e50 hp53 hp54 (hT.trans (pf_val_inl hb16)) rfl
  refine pm_lvsub [2, 3, 4, 5, 1, 0] (lv' := [(0, (3, 90)), (1, (0, a1)), (2, (0, a2)), (3, (0, a3)), (4, (0, 0)), (5, (0, 0))]) rfl ?_
  exact L17 _ 0 0 V0 ⟨by decide, by decide⟩ ⟨by decide, by decide⟩ hV0 (pm_fs.rf (cs := [110, 111, 112]) (fs := [42, 43, 44, 45, 46, 47, 48, 49, 51]) (V := V0)) e2 hn_pm_h1 hn_pm_h2 hT rfl
set_option maxHeartbeats 4000000 in
set_option maxRecDepth 100000 in
theorem fB_X12_right (a1 a2 a3 : Int) (h0 : (-2147483648) ≤ a1 ∧ a1 ≤ 2147483647) (h1 : (-2147483648) ≤ a2 ∧ a2 ≤ 2147483647) (h2 : (-2147483648) ≤ a3 ∧ a3 ≤ 2147483647) : pm_K 5 yX12_right cX12_right 4 (some .int) (fun av V => av = [(3, 90), (0, a1), (0, a2), (0, a3)] ∧ pm_oq pm_qB V ∧ pm_h1 V ∧ pm_h2 V) (fun _ V r V' => ∃ y, r = some (0, y) ∧ ((-2147483648) ≤ y ∧ y ≤ 2147483647) ∧ pm_oq pm_qB V' ∧ pm_fs [110, 111, 112] [42, 43, 44, 45, 46, 47, 48, 49, 51] V V' ∧ F_X12_right a1 a2 a3 V = (y, V')) := by
  refine pm_MT.of (by decide) ⟨Nat.le_refl _, by decide⟩ (fun av V h => by rw [h.1]; exact (by decide : pm_words [(3, 0), (0, 0), (0, 0), (0, 0)] ≤ 4)) ?_
  rintro X av V0 hC - hR ⟨rfl, hV0, hn_pm_h1, hn_pm_h2⟩
  change pm_J X 0 [(0, (3, 90)), (1, (0, a1)), (2, (0, a2)), (3, (0, a3))] [] 118 V0
  have hT := F_X12_right_eq a1 a2 a3 V0
  refine pm_aload_n hC 0 (by decide) dX12_right_0 rfl ?_
  refine pm_iload_n hC 1 dX12_right_1 rfl ?_
  refine pm_iload_n hC 2 dX12_right_2 rfl ?_
  refine pm_iload_n hC 3 dX12_right_3 rfl ?_
  refine pm_callV (ci := 12) (as := [(0, a1), (0, a2), (0, a3)]) (st := []) hC 90 (fB_X12_canBe a1 a2 a3 ⟨by omega, by omega⟩ ⟨by omega, by omega⟩ ⟨by omega, by omega⟩) lm_X12_439 li_X12_canBe (by decide) (by decide) rfl rfl rfl (by decide) rfl rfl (Nat.le_of_ble_eq_true rfl) ⟨Nat.le_refl _, Or.inl rfl⟩ dX12_right_4 ⟨rfl, hV0⟩ (fun r1 V2 hp3 => ?_)
  obtain ⟨y4, rfl, b5, rfl, hE6⟩ := hp3
  replace hT := hT.trans (pf_call_eq hE6)
  change pm_J X 7 [(0, (3, 90)), (1, (0, a1)), (2, (0, a2)), (3, (0, a3))] [(0, y4)] 118 V0
  refine pm_if_eq (tgt := 20) hC ⟨by omega, by omega⟩ dX12_right_7 (by decide) (fun c7 => ?_) (fun c7 => ?_)
  · skip
    replace hT := hT.trans (if_pos c7)
    refine pm_iconst (v := (-1)) hC dX12_right_20 ?_
    exact pm_iret hC hR pm_nar0 ⟨(-1), rfl, ⟨by omega, by omega⟩, hV0, (pm_fs.rf (cs := [110, 111, 112]) (fs := [42, 43, 44, 45, 46, 47, 48, 49, 51]) (V := V0)), hT⟩ dX12_right_21
  · skip
    replace hT := hT.trans (if_neg c7)
    refine pm_aload_n hC 0 (by decide) dX12_right_10 rfl ?_
    refine pm_iload_n hC 1 dX12_right_11 rfl ?_
    refine pm_iload_n hC 2 dX12_right_12 rfl ?_
    refine pm_iload_n hC 3 dX12_right_13 rfl ?_
    refine pm_callV (ci := 12) (as := [(0, a1), (0, a2), (0, a3)]) (st := []) hC 90 (fB_X12_rightOf a1 a2 a3 ⟨by omega, by omega⟩ ⟨by omega, by omega⟩ ⟨by omega, by omega⟩) lm_X12_442 li_X12_rightOf (by decide) (by decide) rfl rfl rfl (by decide) rfl rfl (Nat.le_of_ble_eq_true rfl) ⟨Nat.le_refl _, Or.inl rfl⟩ dX12_right_14 ⟨rfl, hV0, hn_pm_h1, hn_pm_h2⟩ (fun r8 V9 hp10 => ?_)
    obtain ⟨y11, rfl, b12, hV13, hF14, hE15⟩ := hp10
    replace hT := hT.trans (pf_call_eq hE15)
    change pm_J X 17 [(0, (3, 90)), (1, (0, a1)), (2, (0, a2)), (3, (0, a3))] [(0, y11)] 118 V9
    have hF16 := pm_fs.tr (pm_fs.rf (cs := [110, 111, 112]) (fs := [42, 43, 44, 45, 46, 47, 48, 49, 51]) (V := V0)) hF14 (by decide) (by decide)
    have hp17 : pm_h1 V9 := (pm_h1.fr hn_pm_h1 (hF14.2 16 (by decide)) (hF14.1 97 (by decide) (by decide)))
    have hp18 : pm_h2 V9 := (pm_h2.fr hn_pm_h2 (hF14.2 16 (by decide)) (hF14.2 21 (by decide)) (hF14.1 99 (by decide) (by decide)))
    refine pm_goto (tgt := 21) hC dX12_right_17 (by decide) ?_
    exact pm_iret hC hR pm_nar0 ⟨y11, rfl, ⟨by omega, by omega⟩, hV13, hF16, hT⟩ dX12_right_21
set_option maxHeartbeats 4000000 in
set_option maxRecDepth 100000 in
theorem fB_X12_worth (a1 a2 a3 : Int) (h0 : (-2147483648) ≤ a1 ∧ a1 ≤ 2147483647) (h1 : (-2147483648) ≤ a2 ∧ a2 ≤ 2147483647) (h2 : (-2147483648) ≤ a3 ∧ a3 ≤ 2147483647) : pm_K 5 yX12_worth cX12_worth 6 (some .int) (fun av V => av = [(3, 90), (0, a1), (0, a2), (0, a3)] ∧ pm_oq pm_qB V ∧ pm_h1 V ∧ pm_h2 V) (fun _ V r V' => ∃ y, r = some (0, y) ∧ ((-9) ≤ y ∧ y ≤ 9) ∧ pm_oq pm_qB V' ∧ pm_fs [110, 111, 112] [42, 43, 44, 45, 46, 47, 48, 49, 51] V V' ∧ F_X12_worth a1 a2 a3 V = (y, V')) := by
  refine pm_MT.of (by decide) ⟨Nat.le_refl _, by decide⟩ (fun av V h => by rw [h.1]; exact (by decide : pm_words [(3, 0), (0, 0), (0, 0), (0, 0)] ≤ 6)) ?_
  rintro X av V0 hC - hR ⟨rfl, hV0, hn_pm_h1, hn_pm_h2⟩
  change pm_J X 0 [(0, (3, 90)), (1, (0, a1)), (2, (0, a2)), (3, (0, a3))] [] 118 V0
  have hT := F_X12_worth_eq a1 a2 a3 V0
  refine pm_aload_n hC 0 (by decide) dX12_worth_0 rfl ?_
  refine pm_iload_n hC 1 dX12_worth_1 rfl ?_
  refine pm_iload_n hC 2 dX12_worth_2 rfl ?_
  refine pm_iload_n hC 3 dX12_worth_3 rfl ?_
  refine pm_callV (ci := 12) (as := [(0, a1), (0, a2), (0, a3)]) (st := []) hC 90 (fB_X12_canBe a1 a2 a3 ⟨by omega, by omega⟩ ⟨by omega, by omega⟩ ⟨by omega, by omega⟩) lm_X12_439 li_X12_canBe (by decide) (by decide) rfl rfl rfl (by decide) rfl rfl (Nat.le_of_ble_eq_true rfl) ⟨Nat.le_refl _, Or.inl rfl⟩ dX12_worth_4 ⟨rfl, hV0⟩ (fun r1 V2 hp3 => ?_)
  obtain ⟨y4, rfl, b5, rfl, hE6⟩ := hp3
  replace hT := hT.trans (pf_call_eq hE6)
  change pm_J X 7 [(0, (3, 90)), (1, (0, a1)), (2, (0, a2)), (3, (0, a3))] [(0, y4)] 118 V0
  refine pm_if_ne (tgt := 12) hC ⟨by omega, by omega⟩ dX12_worth_7 (by decide) (fun c7 => ?_) (fun c7 => ?_)
  · skip
    replace hT := hT.trans (if_pos c7)
    refine pm_aload_n hC 0 (by decide) dX12_worth_12 rfl ?_
    refine pm_iload_n hC 1 dX12_worth_13 rfl ?_
    refine pm_iload_n hC 2 dX12_worth_14 rfl ?_
    refine pm_iload_n hC 3 dX12_worth_15 rfl ?_
    refine pm_callV (ci := 12) (as := [(0, a1), (0, a2), (0, a3)]) (st := []) hC 90 (fB_X12_rightOf a1 a2 a3 ⟨by omega, by omega⟩ ⟨by omega, by omega⟩ ⟨by omega, by omega⟩) lm_X12_442 li_X12_rightOf (by decide) (by decide) rfl rfl rfl (by decide) rfl rfl (Nat.le_of_ble_eq_true rfl) ⟨Nat.le_refl _, Or.inl rfl⟩ dX12_worth_16 ⟨rfl, hV0, hn_pm_h1, hn_pm_h2⟩ (fun r8 V9 hp10 => ?_)
    obtain ⟨y11, rfl, b12, hV13, hF14, hE15⟩ := hp10
    replace hT := hT.trans (pf_call_eq hE15)
    change pm_J X 19 [(0, (3, 90)), (1, (0, a1)), (2, (0, a2)), (3, (0, a3))] [(0, y11)] 118 V9
    have hF16 := pm_fs.tr (pm_fs.rf (cs := [110, 111, 112]) (fs := [42, 43, 44, 45, 46, 47, 48, 49, 51]) (V := V0)) hF14 (by decide) (by decide)
    have hp17 : pm_h1 V9 := (pm_h1.fr hn_pm_h1 (hF14.2 16 (by decide)) (hF14.1 97 (by decide) (by decide)))
    have hp18 : pm_h2 V9 := (pm_h2.fr hn_pm_h2 (hF14.2 16 (by decide)) (hF14.2 21 (by decide)) (hF14.1 99 (by decide) (by decide)))
    refine pm_istore (lv' := [(4, (0, y11)), (0, (3, 90)), (1, (0, a1)), (2, (0, a2)), (3, (0, a3))]) hC dX12_worth_19 (by decide) rfl ?_
    refine pm_iload_n hC 4 dX12_worth_21 rfl ?_
    refine pm_bipush (v := 10) hC dX12_worth_22 (by decide) ?_
    refine pm_idiv hC ⟨by omega, by omega, by omega⟩ ⟨by decide, by decide, by decide⟩ dX12_worth_24 ?_
    refine pm_istore (lv' := [(5, (0, (a3 / 10))), (4, (0, y11)), (0, (3, 90)), (1, (0, a1)), (2, (0, a2)), (3, (0, a3))]) hC dX12_worth_25 (by decide) rfl ?_
    obtain ⟨B26, hB27, hT⟩ := pf_loop hT
    have L29 : ∀ (N31 : Nat) (x19 : Int) (V21 : pm_M), ((-1) ≤ x19 ∧ x19 ≤ 9) → pm_oq pm_qB V21 → pm_fs [110, 111, 112] [42, 43, 44, 45, 46, 47, 48, 49, 51] V0 V21 → pm_h1 V21 → pm_h2 V21 → F_X12_worth a1 a2 a3 V0 = pf_val ((0 : Int), V0) B26 (x19, V21) → (Int.toNat (x19 - (-1))) = N31 → pm_J X 27 [(0, (3, 90)), (1, (0, a1)), (2, (0, a2)), (3, (0, a3)), (4, (0, y11)), (5, (0, x19))] [] 118 V21 := by
      intro N31
      induction N31 using Nat.strongRecOn with
      | _ N31 ih32 =>
      intro x19 V21 b20 hV22 hF23 hp24 hp25 hT hm30
      have hb28 := congrFun hB27 (x19, V21)
      refine pm_iload hC 5 dX12_worth_27 rfl ?_
      refine pm_if_lt (tgt := 59) hC ⟨by omega, by omega⟩ dX12_worth_29 (by decide) (fun c33 => ?_) (fun c33 => ?_)
      · skip
        replace hb28 := hb28.trans (if_pos c33)
        refine pm_iload hC 5 dX12_worth_59 rfl ?_
        refine pm_if_ge (tgt := 68) hC ⟨by omega, by omega⟩ dX12_worth_61 (by decide) (fun c34 => ?_) (fun c34 => ?_)
        · skip
          replace hb28 := hb28.trans (if_pos c34)
          exfalso; omega
        · skip
          replace hb28 := hb28.trans (if_neg (Int.not_le.mpr c34))
          refine pm_iconst (v := (-1)) hC dX12_worth_64 ?_
          refine pm_goto (tgt := 75) hC dX12_worth_65 (by decide) ?_
          have hT := hT.trans (pf_val_inr hb28)
          exact pm_iret hC hR pm_nar0 ⟨(-1), rfl, ⟨by omega, by omega⟩, hV22, hF23, hT⟩ dX12_worth_75
      · skip
        replace hb28 := hb28.trans (if_neg (Int.not_lt.mpr c33))
        refine pm_aload_n hC 0 (by decide) dX12_worth_32 rfl ?_
        refine pm_iconst (v := 0) hC dX12_worth_33 ?_
        refine pm_iload_n hC 2 dX12_worth_34 rfl ?_
        refine pm_bipush (v := 10) hC dX12_worth_35 (by decide) ?_
        refine pm_iload hC 5 dX12_worth_37 rfl ?_
        refine pm_imul hC dX12_worth_39 ?_
        refine pm_iload_n hC 3 dX12_worth_40 rfl ?_
        refine pm_bipush (v := 10) hC dX12_worth_41 (by decide) ?_
        refine pm_irem hC ⟨by omega, by omega, by omega⟩ ⟨by decide, by decide, by decide⟩ dX12_worth_43 ?_
        refine pm_iadd hC dX12_worth_44 ?_
        refine pm_callV (ci := 12) (as := [(0, 0), (0, a2), (0, ((10 * x19) + (a3 % 10)))]) (st := []) hC 90 (fB_X12_rightOf 0 a2 ((10 * x19) + (a3 % 10)) ⟨by decide, by decide⟩ ⟨by omega, by omega⟩ ⟨by omega, by omega⟩) lm_X12_442 li_X12_rightOf (by decide) (by decide) rfl rfl rfl (by decide) rfl rfl (Nat.le_of_ble_eq_true rfl) ⟨Nat.le_refl _, Or.inl rfl⟩ dX12_worth_45 ⟨rfl, hV22, hp24, hp25⟩ (fun r35 V36 hp37 => ?_)
        obtain ⟨y38, rfl, b39, hV40, hF41, hE42⟩ := hp37
        replace hb28 := hb28.trans (pf_call_eq hE42)
        change pm_J X 48 [(0, (3, 90)), (1, (0, a1)), (2, (0, a2)), (3, (0, a3)), (4, (0, y11)), (5, (0, x19))] [(0, y38)] 118 V36
        have hF43 := pm_fs.tr hF23 hF41 (by decide) (by decide)
        have hp44 : pm_h1 V36 := (pm_h1.fr hp24 (hF41.2 16 (by decide)) (hF41.1 97 (by decide) (by decide)))
        have hp45 : pm_h2 V36 := (pm_h2.fr hp25 (hF41.2 16 (by decide)) (hF41.2 21 (by decide)) (hF41.1 99 (by decide) (by decide)))
        refine pm_iload hC 4 dX12_worth_48 rfl ?_
        refine pm_icmp_ge (tgt := 59) hC ⟨by omega, by omega⟩ ⟨by omega, by omega⟩ dX12_worth_50 (by decide) (fun c46 => ?_) (fun c46 => ?_)
        · skip
          replace hb28 := hb28.trans (if_pos c46)
          refine pm_iload hC 5 dX12_worth_59 rfl ?_
          refine pm_if_ge (tgt := 68) hC ⟨by omega, by omega⟩ dX12_worth_61 (by decide) (fun c47 => ?_) (fun c47 => ?_)
          · skip
            replace hb28 := hb28.trans (if_pos c47)
            refine pm_iload_n hC 3 dX12_worth_68 rfl ?_
            refine pm_bipush (v := 10) hC dX12_worth_69 (by decide) ?_
            refine pm_idiv hC ⟨by omega, by omega, by omega⟩ ⟨by decide, by decide, by decide⟩ dX12_worth_71 ?_
            refine pm_iload hC 5 dX12_worth_72 rfl ?_
            refine pm_isub hC dX12_worth_74 ?_
            have hT := hT.trans (pf_val_inr hb28)
            exact pm_iret hC hR pm_nar0 ⟨((a3 / 10) - x19), rfl, ⟨by omega, by omega⟩, hV40, hF43, hT⟩ dX12_worth_75
          · skip
            replace hb28 := hb28.trans (if_neg (Int.not_le.mpr c47))
            exfalso; omega
        · skip
          replace hb28 := hb28.trans (if_neg (Int.not_le.mpr c46))
          obtain ⟨x48, ei49⟩ : ∃ y : Int, x19 + (-1) = y := ⟨_, rfl⟩
          replace hb28 := hb28.trans (pf_let_eq ei49)
          refine pm_iinc (y := x48) (lv' := [(5, (0, x48)), (0, (3, 90)), (1, (0, a1)), (2, (0, a2)), (3, (0, a3)), (4, (0, y11))]) hC 5 dX12_worth_53 (by decide) rfl ei49 rfl ?_
          refine pm_goto (tgt := 27) hC dX12_worth_56 (by decide) ?_
          refine pm_lvsub [1, 2, 3, 4, 5, 0] (lv' := [(0, (3, 90)), (1, (0, a1)), (2, (0, a2)), (3, (0, a3)), (4, (0, y11)), (5, (0, x48))]) rfl ?_
          exact ih32 _ (by omega) x48 V36 ⟨by omega, by omega⟩ hV40 hF43 hp44 hp45 (hT.trans (pf_val_inl hb28)) rfl
    refine pm_lvsub [2, 3, 4, 5, 1, 0] (lv' := [(0, (3, 90)), (1, (0, a1)), (2, (0, a2)), (3, (0, a3)), (4, (0, y11)), (5, (0, (a3 / 10)))]) rfl ?_
    exact L29 _ (a3 / 10) V9 ⟨by omega, by omega⟩ hV13 hF16 hp17 hp18 hT rfl
  · skip
    replace hT := hT.trans (if_neg (fun q => q c7))
    refine pm_iconst (v := (-1)) hC dX12_worth_10 ?_
    exact pm_iret hC hR pm_nar0 ⟨(-1), rfl, ⟨by omega, by omega⟩, hV0, (pm_fs.rf (cs := [110, 111, 112]) (fs := [42, 43, 44, 45, 46, 47, 48, 49, 51]) (V := V0)), hT⟩ dX12_worth_11
