noncomputable def F_X12_works (a1 a2 a3 : Int) (V0 : pm_M) : Int × pm_M := pf_let (V0 90 16) fun y1 => pf_let (V0 98 (0 : Int).toNat) fun y5 => pf_let (V0 100 ((4 * (a1 / 100)) : Int).toNat) fun y9 => pf_let (V0 98 (1 : Int).toNat) fun y12 => pf_let ((y12 * (a2 / 10))) fun y15 => pf_let (V0 98 (2 : Int).toNat) fun y19 => pf_let (V0 100 (((4 * (a1 / 100)) + 1) : Int).toNat) fun y22 => pf_let (V0 98 (3 : Int).toNat) fun y25 => pf_let ((y25 * (a2 % 10))) fun y28 => pf_let (V0 90 20) fun y32 => pf_let (V0 100 (((4 * (a1 / 100)) + 2) : Int).toNat) fun y37 => (if a3 < 0 then (pf_let (((-a3) / y35)) fun y41 => pf_let ((pm_up (pm_up (pm_up (pm_up (pm_up (pm_up (pm_up (pm_up V0 90 48 ((a1 / 10) % 10)) 90 49 (a1 % 10)) 90 42 y17) 90 43 y30) 90 47 y43) 90 44 0) 90 45 0) 90 46 0)) fun V45 => pf_val ((0 : Int), V0) (fun (q : Int × pm_M) => match q with | (x62, V64) => ((if y1 ≤ x62 then ((.inr (0, V64))) else (pf_let (V64 90 44) fun y94 => pf_let (V64 90 45) fun y97 => pf_let (V64 90 46) fun y100 => pf_let (V64 97 (((3 * x62) + 2) : Int).toNat) fun y105 => pf_call (F_X12_x x62 V64) fun y111 _ => pf_call (F_X12_x ((a1 / 10) % 10) V64) fun y117 _ => pf_call (F_X12_far (y111 - y117) V64) fun y123 _ => pf_call (F_X12_y x62 V64) fun y129 _ => pf_call (F_X12_y ((a1 / 10) % 10) V64) fun y135 _ => pf_call (F_X12_far (y129 - y135) V64) fun y141 _ => pf_let ((y105 * ((y17 - y123) - y141))) fun y144 => pf_call (F_X12_x x62 (pm_up V64 110 (x62 : Int).toNat y146)) fun y153 _ => pf_call (F_X12_x (a1 % 10) (pm_up V64 110 (x62 : Int).toNat y146)) fun y159 _ => pf_call (F_X12_far (y153 - y159) (pm_up V64 110 (x62 : Int).toNat y146)) fun y165 _ => pf_let ((pm_up (pm_up V64 110 (x62 : Int).toNat y146) 111 (x62 : Int).toNat y168)) fun V171 => pf_let (V171 110 (x62 : Int).toNat) fun y191 => pf_let (V171 111 (x62 : Int).toNat) fun y194 => pf_let ((y191 * y194)) fun y197 => pf_let (x62 + 1) fun x199 => (.inl (x199, (pm_up (pm_up (pm_up V171 90 44 (y94 + y191)) 90 45 (y97 + y194)) 90 46 (y100 + y197)))))))) (0, V45)) else (pf_let ((a3 / y32)) fun y201 => pf_let ((pm_up (pm_up (pm_up (pm_up (pm_up (pm_up (pm_up (pm_up V0 90 48 ((a1 / 10) % 10)) 90 49 (a1 % 10)) 90 42 y17) 90 43 y30) 90 47 y203) 90 44 0) 90 45 0) 90 46 0)) fun V205 => pf_val ((0 : Int), V0) (fun (q : Int × pm_M) => match q with | (x222, V224) => ((if y1 ≤ x222 then ((.inr (0, V224))) else (pf_let (V224 90 44) fun y254 => pf_let (V224 90 45) fun y257 => pf_let (V224 90 46) fun y260 => pf_let (V224 97 (((3 * x222) + 2) : Int).toNat) fun y265 => pf_call (F_X12_x x222 V224) fun y271 _ => pf_call (F_X12_x ((a1 / 10) % 10) V224) fun y277 _ => pf_call (F_X12_far (y271 - y277) V224) fun y283 _ => pf_call (F_X12_y x222 V224) fun y289 _ => pf_call (F_X12_y ((a1 / 10) % 10) V224) fun y295 _ => pf_call (F_X12_far (y289 - y295) V224) fun y301 _ => pf_let ((y265 * ((y17 - y283) - y301))) fun y304 => pf_call (F_X12_x x222 (pm_up V224 110 (x222 : Int).toNat y306)) fun y313 _ => pf_call (F_X12_x (a1 % 10) (pm_up V224 110 (x222 : Int).toNat y306)) fun y319 _ => pf_call (F_X12_far (y313 - y319) (pm_up V224 110 (x222 : Int).toNat y306)) fun y325 _ => pf_let ((pm_up (pm_up V224 110 (x222 : Int).toNat y306) 111 (x222 : Int).toNat y328)) fun V331 => pf_let (V331 110 (x222 : Int).toNat) fun y351 => pf_let (V331 111 (x222 : Int).toNat) fun y354 => pf_let ((y351 * y354)) fun y357 => pf_let (x222 + 1) fun x359 => (.inl (x359, (pm_up (pm_up (pm_up V331 90 44 (y254 + y351)) 90 45 (y257 + y354)) 90 46 (y260 + y357)))))))) (0, V205)))
theorem F_X12_works_eq (a1 a2 a3 : Int) (V0 : pm_M) : F_X12_works a1 a2 a3 V0 = pf_let (V0 90 16) fun y1 => pf_let (V0 98 (0 : Int).toNat) fun y5 => pf_let (V0 100 ((4 * (a1 / 100)) : Int).toNat) fun y9 => pf_let (V0 98 (1 : Int).toNat) fun y12 => pf_let ((y12 * (a2 / 10))) fun y15 => pf_let (V0 98 (2 : Int).toNat) fun y19 => pf_let (V0 100 (((4 * (a1 / 100)) + 1) : Int).toNat) fun y22 => pf_let (V0 98 (3 : Int).toNat) fun y25 => pf_let ((y25 * (a2 % 10))) fun y28 => pf_let (V0 90 20) fun y32 => pf_let (V0 100 (((4 * (a1 / 100)) + 2) : Int).toNat) fun y37 => (if a3 < 0 then (pf_let (((-a3) / y35)) fun y41 => pf_let ((pm_up (pm_up (pm_up (pm_up (pm_up (pm_up (pm_up (pm_up V0 90 48 ((a1 / 10) % 10)) 90 49 (a1 % 10)) 90 42 y17) 90 43 y30) 90 47 y43) 90 44 0) 90 45 0) 90 46 0)) fun V45 => pf_val ((0 : Int), V0) (fun (q : Int × pm_M) => match q with | (x62, V64) => ((if y1 ≤ x62 then ((.inr (0, V64))) else (pf_let (V64 90 44) fun y94 => pf_let (V64 90 45) fun y97 => pf_let (V64 90 46) fun y100 => pf_let (V64 97 (((3 * x62) + 2) : Int).toNat) fun y105 => pf_call (F_X12_x x62 V64) fun y111 _ => pf_call (F_X12_x ((a1 / 10) % 10) V64) fun y117 _ => pf_call (F_X12_far (y111 - y117) V64) fun y123 _ => pf_call (F_X12_y x62 V64) fun y129 _ => pf_call (F_X12_y ((a1 / 10) % 10) V64) fun y135 _ => pf_call (F_X12_far (y129 - y135) V64) fun y141 _ => pf_let ((y105 * ((y17 - y123) - y141))) fun y144 => pf_call (F_X12_x x62 (pm_up V64 110 (x62 : Int).toNat y146)) fun y153 _ => pf_call (F_X12_x (a1 % 10) (pm_up V64 110 (x62 : Int).toNat y146)) fun y159 _ => pf_call (F_X12_far (y153 - y159) (pm_up V64 110 (x62 : Int).toNat y146)) fun y165 _ => pf_let ((pm_up (pm_up V64 110 (x62 : Int).toNat y146) 111 (x62 : Int).toNat y168)) fun V171 => pf_let (V171 110 (x62 : Int).toNat) fun y191 => pf_let (V171 111 (x62 : Int).toNat) fun y194 => pf_let ((y191 * y194)) fun y197 => pf_let (x62 + 1) fun x199 => (.inl (x199, (pm_up (pm_up (pm_up V171 90 44 (y94 + y191)) 90 45 (y97 + y194)) 90 46 (y100 + y197)))))))) (0, V45)) else (pf_let ((a3 / y32)) fun y201 => pf_let ((pm_up (pm_up (pm_up (pm_up (pm_up (pm_up (pm_up (pm_up V0 90 48 ((a1 / 10) % 10)) 90 49 (a1 % 10)) 90 42 y17) 90 43 y30) 90 47 y203) 90 44 0) 90 45 0) 90 46 0)) fun V205 => pf_val ((0 : Int), V0) (fun (q : Int × pm_M) => match q with | (x222, V224) => ((if y1 ≤ x222 then ((.inr (0, V224))) else (pf_let (V224 90 44) fun y254 => pf_let (V224 90 45) fun y257 => pf_let (V224 90 46) fun y260 => pf_let (V224 97 (((3 * x222) + 2) : Int).toNat) fun y265 => pf_call (F_X12_x x222 V224) fun y271 _ => pf_call (F_X12_x ((a1 / 10) % 10) V224) fun y277 _ => pf_call (F_X12_far (y271 - y277) V224) fun y283 _ => pf_call (F_X12_y x222 V224) fun y289 _ => pf_call (F_X12_y ((a1 / 10) % 10) V224) fun y295 _ => pf_call (F_X12_far (y289 - y295) V224) fun y301 _ => pf_let ((y265 * ((y17 - y283) - y301))) fun y304 => pf_call (F_X12_x x222 (pm_up V224 110 (x222 : Int).toNat y306)) fun y313 _ => pf_call (F_X12_x (a1 % 10) (pm_up V224 110 (x222 : Int).toNat y306)) fun y319 _ => pf_call (F_X12_far (y313 - y319) (pm_up V224 110 (x222 : Int).toNat y306)) fun y325 _ => pf_let ((pm_up (pm_up V224 110 (x222 : Int).toNat y306) 111 (x222 : Int).toNat y328)) fun V331 => pf_let (V331 110 (x222 : Int).toNat) fun y351 => pf_let (V331 111 (x222 : Int).toNat) fun y354 => pf_let ((y351 * y354)) fun y357 => pf_let (x222 + 1) fun x359 => (.inl (x359, (pm_up (pm_up (pm_up V331 90 44 (y254 + y351)) 90 45 (y257 + y354)) 90 46 (y260 + y357)))))))) (0, V205))) := rfl
noncomputable def F_X12_worksAnswer (a1 : Int) (V0 : pm_M) : Int × pm_M := pf_let (V0 90 25) fun y1 => pf_let (V0 101 ((5 * a1) : Int).toNat) fun y5 => pf_let (V0 101 (((5 * a1) + 1) : Int).toNat) fun y8 => pf_let (V0 101 (((5 * a1) + 2) : Int).toNat) fun y11 => pf_call (F_X12_works y5 y8 y11 V0) fun _ V15 => pf_let (V15 90 42) fun z29 => pf_let (V15 90 43) fun z31 => (0, V15)
theorem F_X12_worksAnswer_eq (a1 : Int) (V0 : pm_M) : F_X12_worksAnswer a1 V0 = pf_let (V0 90 25) fun y1 => pf_let (V0 101 ((5 * a1) : Int).toNat) fun y5 => pf_let (V0 101 (((5 * a1) + 1) : Int).toNat) fun y8 => pf_let (V0 101 (((5 * a1) + 2) : Int).toNat) fun y11 => pf_call (F_X12_works y5 y8 y11 V0) fun _ V15 => pf_let (V15 90 42) fun z29 => pf_let (V15 90 43) fun z31 => (0, V15) := rfl
set_option maxHeartbeats 4000000 in
set_option maxRecDepth 100000 in
theorem fB_X12_works (a1 a2 a3 : Int) (h0 : 0 ≤ a1 ∧ a1 ≤ 999) (h1 : 0 ≤ a2 ∧ a2 ≤ 99) (h2 : (-99) ≤ a3 ∧ a3 ≤ 99) (h3 : a1 % 10 ≤ 8 ∧ a1 / 10 % 10 ≤ 8) : pm_K 2 yX12_works cX12_works 7 none (fun av V => av = [(3, 90), (0, a1), (0, a2), (0, a3)] ∧ pm_oq pm_qB V ∧ (a1 % 10 < V 90 16) ∧ (a1 / 10 % 10 < V 90 16) ∧ pm_h1 V) (fun _ V r V' => r = none ∧ pm_oq pm_qB V' ∧ pm_fs [110, 111] [42, 43, 44, 45, 46, 47, 48, 49] V V' ∧ (1 ≤ V' 90 42 ∧ V' 90 42 ≤ 171) ∧ (1 ≤ V' 90 43 ∧ V' 90 43 ≤ 171) ∧ pm_w1 V' ∧ pm_w3 V' ∧ F_X12_works a1 a2 a3 V = (0, V')) := by
  refine pm_MT.of (by decide) ⟨Nat.le_refl _, by decide⟩ (fun av V h => by rw [h.1]; exact (by decide : pm_words [(3, 0), (0, 0), (0, 0), (0, 0)] ≤ 7)) ?_
  rintro X av V0 hC - hR ⟨rfl, hV0, hmp0, hmp1, hn_pm_h1⟩
  change pm_J X 0 [(0, (3, 90)), (1, (0, a1)), (2, (0, a2)), (3, (0, a3))] [] 118 V0
  have hT := F_X12_works_eq a1 a2 a3 V0
  obtain ⟨y1, e2⟩ : ∃ y, V0 90 16 = y := ⟨_, rfl⟩
  have b3 := hV0.get 90 16 (lo := 2) (hi := 9) (by decide) (by decide) rfl
  rw [e2] at b3
  replace hT := hT.trans (pf_let_eq e2)
  refine pm_iconst (v := 4) hC dX12_works_0 ?_
  refine pm_iload_n hC 1 dX12_works_1 rfl ?_
  refine pm_bipush (v := 100) hC dX12_works_2 (by decide) ?_
  refine pm_idiv hC ⟨by omega, by omega, by omega⟩ ⟨by decide, by decide, by decide⟩ dX12_works_4 ?_
  refine pm_imul hC dX12_works_5 ?_
  refine pm_istore (lv' := [(4, (0, (4 * (a1 / 100)))), (0, (3, 90)), (1, (0, a1)), (2, (0, a2)), (3, (0, a3))]) hC dX12_works_6 (by decide) rfl ?_
  refine pm_aload_n hC 1 (by decide) dX12_works_8 rfl ?_
  refine pm_iload_n hC 2 dX12_works_9 rfl ?_
  refine pm_bipush (v := 10) hC dX12_works_10 (by decide) ?_
  refine pm_idiv hC ⟨by omega, by omega, by omega⟩ ⟨by decide, by decide, by decide⟩ dX12_works_12 ?_
  refine pm_bipush (v := 10) hC dX12_works_13 (by decide) ?_
  refine pm_irem hC ⟨by omega, by omega, by omega⟩ ⟨by decide, by decide, by decide⟩ dX12_works_15 ?_
  refine pm_putf hC 90 fl_X12_305 rfl rfl rfl (by decide) rfl trivial dX12_works_16 ?_
  refine pm_aload_n hC 1 (by decide) dX12_works_19 rfl ?_
  refine pm_iload_n hC 2 dX12_works_20 rfl ?_
  refine pm_bipush (v := 10) hC dX12_works_21 (by decide) ?_
  refine pm_irem hC ⟨by omega, by omega, by omega⟩ ⟨by decide, by decide, by decide⟩ dX12_works_23 ?_
  refine pm_putf hC 90 fl_X12_308 rfl rfl rfl (by decide) rfl trivial dX12_works_24 ?_
  refine pm_aload_n hC 1 (by decide) dX12_works_27 rfl ?_
  refine pm_iconst (v := 1) hC dX12_works_28 ?_
  refine pm_aload_n hC 1 (by decide) dX12_works_29 rfl ?_
  have e4 : V0 90 18 = 98 := hV0.one 90 18 (by decide) (by decide) rfl
  refine pm_getf (v := 98) hC 90 fl_X12_34 rfl rfl (by decide) rfl e4 dX12_works_30 ?_
  refine pm_iconst (v := 0) hC dX12_works_33 ?_
  obtain ⟨y5, e6⟩ : ∃ y, V0 98 (0 : Int).toNat = y := ⟨_, rfl⟩
  replace hT := hT.trans (pf_let_eq e6)
  have b7 := hV0.get 98 (0 : Int).toNat (lo := 1) (hi := 60) (t := 0) (by decide) (show _ < 4 by omega) rfl
  rw [e6] at b7
  refine pm_iaload (len := 4) (v := y5) hC 98 rfl rfl (by decide) ⟨by decide, by decide⟩ (by decide) e6 dX12_works_34 ?_
  refine pm_aload_n hC 1 (by decide) dX12_works_35 rfl ?_
  have e8 : V0 90 24 = 100 := hV0.one 90 24 (by decide) (by decide) rfl
  refine pm_getf (v := 100) hC 90 fl_X12_40 rfl rfl (by decide) rfl e8 dX12_works_36 ?_
  refine pm_iload hC 0 dX12_works_39 rfl ?_
  obtain ⟨y9, e10⟩ : ∃ y, V0 100 ((4 * (a1 / 100)) : Int).toNat = y := ⟨_, rfl⟩
  replace hT := hT.trans (pf_let_eq e10)
  have b11 := hV0.get 100 ((4 * (a1 / 100)) : Int).toNat (lo := (-30)) (hi := 30) (t := 0) (by decide) (show _ < 40 by omega) ((pm_qe_r (tb := pm_qB) (k := 100) (i := ((4 * (a1 / 100)) : Int).toNat) (m := 4) (r := 0) (l := [(-30, 30, 0), (-30, 30, 0), (0, 16, 0), (0, 3, 0)]) rfl rfl (by omega)).trans rfl)
  rw [e10] at b11
  refine pm_iaload (len := 40) (v := y9) hC 100 rfl rfl (by decide) ⟨by omega, by omega⟩ (by decide) e10 dX12_works_41 ?_
  refine pm_iadd hC dX12_works_42 ?_
  refine pm_aload_n hC 1 (by decide) dX12_works_43 rfl ?_
  refine pm_getf (v := 98) hC 90 fl_X12_34 rfl rfl (by decide) rfl e4 dX12_works_44 ?_
  refine pm_iconst (v := 1) hC dX12_works_47 ?_
  obtain ⟨y12, e13⟩ : ∃ y, V0 98 (1 : Int).toNat = y := ⟨_, rfl⟩
  replace hT := hT.trans (pf_let_eq e13)
  have b14 := hV0.get 98 (1 : Int).toNat (lo := 0) (hi := 9) (t := 0) (by decide) (show _ < 4 by omega) rfl
  rw [e13] at b14
  refine pm_iaload (len := 4) (v := y12) hC 98 rfl rfl (by decide) ⟨by decide, by decide⟩ (by decide) e13 dX12_works_48 ?_
  refine pm_iload_n hC 3 dX12_works_49 rfl ?_
  refine pm_bipush (v := 10) hC dX12_works_50 (by decide) ?_
  refine pm_idiv hC ⟨by omega, by omega, by omega⟩ ⟨by decide, by decide, by decide⟩ dX12_works_52 ?_
  refine pm_imul hC dX12_works_53 ?_
  have b16 : 0 ≤ (y12 * (a2 / 10)) ∧ (y12 * (a2 / 10)) ≤ 81 := pm_mulb (by omega) (by omega) (show y12 ≤ 9 by omega) (show (a2 / 10) ≤ 9 by omega) (by decide)
  obtain ⟨y15, hey15⟩ : ∃ z, (y12 * (a2 / 10)) = z := ⟨_, rfl⟩
  rw [hey15] at b16 ⊢
  replace hT := hT.trans (pf_let_eq hey15)
  refine pm_iadd hC dX12_works_54 ?_
  refine pm_mmax hC 7047 4012 1018 4013 ⟨by decide, by decide⟩ ⟨by omega, by omega⟩ (by decide) wL_X12_311 wS_mmax wI_math wC_mmax (Nat.le_of_ble_eq_true rfl) dX12_works_55 (fun y17 b18 => ?_)
  replace b18 : 1 ≤ y17 ∧ y17 ≤ 171 ∧ 1 ≤ y17 ∧ ((y5 + y9) + y15) ≤ y17 := ⟨by omega, by omega, b18.1, b18.2.1⟩
  refine pm_putf hC 90 fl_X12_317 rfl rfl rfl (by decide) rfl trivial dX12_works_58 ?_
  refine pm_aload_n hC 1 (by decide) dX12_works_61 rfl ?_
  refine pm_iconst (v := 1) hC dX12_works_62 ?_
  refine pm_aload_n hC 1 (by decide) dX12_works_63 rfl ?_
  refine pm_getf (v := 98) hC 90 fl_X12_34 rfl rfl (by decide) rfl e4 dX12_works_64 ?_
  refine pm_iconst (v := 2) hC dX12_works_67 ?_
  obtain ⟨y19, e20⟩ : ∃ y, V0 98 (2 : Int).toNat = y := ⟨_, rfl⟩
  replace hT := hT.trans (pf_let_eq e20)
  have b21 := hV0.get 98 (2 : Int).toNat (lo := 1) (hi := 60) (t := 0) (by decide) (show _ < 4 by omega) rfl
  rw [e20] at b21
  refine pm_iaload (len := 4) (v := y19) hC 98 rfl rfl (by decide) ⟨by decide, by decide⟩ (by decide) e20 dX12_works_68 ?_
  refine pm_aload_n hC 1 (by decide) dX12_works_69 rfl ?_
  refine pm_getf (v := 100) hC 90 fl_X12_40 rfl rfl (by decide) rfl e8 dX12_works_70 ?_
  refine pm_iload hC 0 dX12_works_73 rfl ?_
  refine pm_iconst (v := 1) hC dX12_works_75 ?_
  refine pm_iadd hC dX12_works_76 ?_
  obtain ⟨y22, e23⟩ : ∃ y, V0 100 (((4 * (a1 / 100)) + 1) : Int).toNat = y := ⟨_, rfl⟩
  replace hT := hT.trans (pf_let_eq e23)
  have b24 := hV0.get 100 (((4 * (a1 / 100)) + 1) : Int).toNat (lo := (-30)) (hi := 30) (t := 0) (by decide) (show _ < 40 by omega) ((pm_qe_r (tb := pm_qB) (k := 100) (i := (((4 * (a1 / 100)) + 1) : Int).toNat) (m := 4) (r := 1) (l := [(-30, 30, 0), (-30, 30, 0), (0, 16, 0), (0, 3, 0)]) rfl rfl (by omega)).trans rfl)
  rw [e23] at b24
  refine pm_iaload (len := 40) (v := y22) hC 100 rfl rfl (by decide) ⟨by omega, by omega⟩ (by decide) e23 dX12_works_77 ?_
  refine pm_iadd hC dX12_works_78 ?_
  refine pm_aload_n hC 1 (by decide) dX12_works_79 rfl ?_
  refine pm_getf (v := 98) hC 90 fl_X12_34 rfl rfl (by decide) rfl e4 dX12_works_80 ?_
  refine pm_iconst (v := 3) hC dX12_works_83 ?_
  obtain ⟨y25, e26⟩ : ∃ y, V0 98 (3 : Int).toNat = y := ⟨_, rfl⟩
  replace hT := hT.trans (pf_let_eq e26)
  have b27 := hV0.get 98 (3 : Int).toNat (lo := 0) (hi := 9) (t := 0) (by decide) (show _ < 4 by omega) rfl
  rw [e26] at b27
  refine pm_iaload (len := 4) (v := y25) hC 98 rfl rfl (by decide) ⟨by decide, by decide⟩ (by decide) e26 dX12_works_84 ?_
  refine pm_iload_n hC 3 dX12_works_85 rfl ?_
  refine pm_bipush (v := 10) hC dX12_works_86 (by decide) ?_
  refine pm_irem hC ⟨by omega, by omega, by omega⟩ ⟨by decide, by decide, by decide⟩ dX12_works_88 ?_
  refine pm_imul hC dX12_works_89 ?_
  have b29 : 0 ≤ (y25 * (a2 % 10)) ∧ (y25 * (a2 % 10)) ≤ 81 := pm_mulb (by omega) (by omega) (show y25 ≤ 9 by omega) (show (a2 % 10) ≤ 9 by omega) (by decide)
  obtain ⟨y28, hey28⟩ : ∃ z, (y25 * (a2 % 10)) = z := ⟨_, rfl⟩
  rw [hey28] at b29 ⊢
  replace hT := hT.trans (pf_let_eq hey28)
  refine pm_iadd hC dX12_works_90 ?_
  refine pm_mmax hC 7047 4012 1018 4013 ⟨by decide, by decide⟩ ⟨by omega, by omega⟩ (by decide) wL_X12_311 wS_mmax wI_math wC_mmax (Nat.le_of_ble_eq_true rfl) dX12_works_91 (fun y30 b31 => ?_)
  replace b31 : 1 ≤ y30 ∧ y30 ≤ 171 ∧ 1 ≤ y30 ∧ ((y19 + y22) + y28) ≤ y30 := ⟨by omega, by omega, b31.1, b31.2.1⟩
  refine pm_putf hC 90 fl_X12_320 rfl rfl rfl (by decide) rfl trivial dX12_works_94 ?_
  refine pm_iconst (v := 1) hC dX12_works_97 ?_
  refine pm_aload_n hC 1 (by decide) dX12_works_98 rfl ?_
  obtain ⟨y32, e33⟩ : ∃ y, V0 90 20 = y := ⟨_, rfl⟩
  have b34 := hV0.get 90 20 (lo := 1) (hi := 99) (by decide) (by decide) rfl
  rw [e33] at b34
  replace hT := hT.trans (pf_let_eq e33)
  refine pm_getf (v := y32) hC 90 fl_X12_229 rfl rfl (by decide) rfl e33 dX12_works_99 ?_
  refine pm_iconst (v := 2) hC dX12_works_102 ?_
  refine pm_idiv hC ⟨by omega, by omega, by omega⟩ ⟨by decide, by decide, by decide⟩ dX12_works_103 ?_
  refine pm_mmax hC 7047 4012 1018 4013 ⟨by decide, by decide⟩ ⟨by omega, by omega⟩ (by decide) wL_X12_311 wS_mmax wI_math wC_mmax (Nat.le_of_ble_eq_true rfl) dX12_works_104 (fun y35 b36 => ?_)
  replace b36 : 1 ≤ y35 ∧ y35 ≤ 49 ∧ 1 ≤ y35 ∧ (y32 / 2) ≤ y35 := ⟨by omega, by omega, b36.1, b36.2.1⟩
  refine pm_istore (lv' := [(5, (0, y35)), (4, (0, (4 * (a1 / 100)))), (0, (3, 90)), (1, (0, a1)), (2, (0, a2)), (3, (0, a3))]) hC dX12_works_107 (by decide) rfl ?_
  refine pm_aload_n hC 2 (by decide) dX12_works_109 rfl ?_
  refine pm_iconst (v := 0) hC dX12_works_110 ?_
  refine pm_aload_n hC 2 (by decide) dX12_works_111 rfl ?_
  refine pm_getf (v := 100) hC 90 fl_X12_40 rfl rfl (by decide) rfl e8 dX12_works_112 ?_
  refine pm_iload hC 1 dX12_works_115 rfl ?_
  refine pm_iconst (v := 2) hC dX12_works_117 ?_
  refine pm_iadd hC dX12_works_118 ?_
  obtain ⟨y37, e38⟩ : ∃ y, V0 100 (((4 * (a1 / 100)) + 2) : Int).toNat = y := ⟨_, rfl⟩
  replace hT := hT.trans (pf_let_eq e38)
  have b39 := hV0.get 100 (((4 * (a1 / 100)) + 2) : Int).toNat (lo := 0) (hi := 16) (t := 0) (by decide) (show _ < 40 by omega) ((pm_qe_r (tb := pm_qB) (k := 100) (i := (((4 * (a1 / 100)) + 2) : Int).toNat) (m := 4) (r := 2) (l := [(-30, 30, 0), (-30, 30, 0), (0, 16, 0), (0, 3, 0)]) rfl rfl (by omega)).trans rfl)
  rw [e38] at b39
  refine pm_iaload (len := 40) (v := y37) hC 100 rfl rfl (by decide) ⟨by omega, by omega⟩ (by decide) e38 dX12_works_119 ?_
  refine pm_iload_n hC 5 dX12_works_120 rfl ?_
  refine pm_if_lt (tgt := 133) hC ⟨by omega, by omega⟩ dX12_works_121 (by decide) (fun c40 => ?_) (fun c40 => ?_)
  · skip
    replace hT := hT.trans (if_pos c40)
    refine pm_iload_n hC 5 dX12_works_133 rfl ?_
    refine pm_ineg hC dX12_works_134 ?_
    refine pm_iload hC 0 dX12_works_135 rfl ?_
    refine pm_idiv hC ⟨by omega, by omega, by omega⟩ ⟨by omega, by omega, by omega⟩ dX12_works_137 ?_
    have b42 := pm_divb (x := (-a3)) (y := y35) (by omega) (by omega)
    obtain ⟨y41, hey41⟩ : ∃ z, ((-a3) / y35) = z := ⟨_, rfl⟩
    rw [hey41] at b42 ⊢
    replace hT := hT.trans (pf_let_eq hey41)
    refine pm_isub hC dX12_works_138 ?_
    refine pm_mmax hC 7047 4012 1018 4013 ⟨by decide, by decide⟩ ⟨by omega, by omega⟩ (by decide) wL_X12_311 wS_mmax wI_math wC_mmax (Nat.le_of_ble_eq_true rfl) dX12_works_139 (fun y43 b44 => ?_)
    replace b44 : 0 ≤ y43 ∧ y43 ≤ 16 ∧ 0 ≤ y43 ∧ (y37 - y41) ≤ y43 := ⟨by omega, by omega, b44.1, b44.2.1⟩
    refine pm_putf hC 90 fl_X12_323 rfl rfl rfl (by decide) rfl trivial dX12_works_142 ?_
    refine pm_aload_n hC 2 (by decide) dX12_works_145 rfl ?_
    refine pm_lconst (x := 0) hC dX12_works_146 rfl ?_
    refine pm_putf hC 90 fl_X12_326 rfl rfl rfl (by decide) rfl trivial dX12_works_147 ?_
    refine pm_aload_n hC 2 (by decide) dX12_works_150 rfl ?_
    refine pm_lconst (x := 0) hC dX12_works_151 rfl ?_
    refine pm_putf hC 90 fl_X12_329 rfl rfl rfl (by decide) rfl trivial dX12_works_152 ?_
    refine pm_aload_n hC 2 (by decide) dX12_works_155 rfl ?_
    refine pm_lconst (x := 0) hC dX12_works_156 rfl ?_
    refine pm_putf hC 90 fl_X12_332 rfl rfl rfl (by decide) rfl trivial dX12_works_157 ?_
    refine pm_iconst (v := 0) hC dX12_works_160 ?_
    refine pm_istore (lv' := [(6, (0, 0)), (5, (0, y35)), (4, (0, (4 * (a1 / 100)))), (0, (3, 90)), (1, (0, a1)), (2, (0, a2)), (3, (0, a3))]) hC dX12_works_161 (by decide) rfl ?_
    have hV47 := ((((((((hV0.put 90 48 (x := ((a1 / 10) % 10)) (lo := 0) (hi := 8) rfl ⟨by omega, by omega⟩).put 90 49 (x := (a1 % 10)) (lo := 0) (hi := 8) rfl ⟨by omega, by omega⟩).put 90 42 (x := y17) (lo := 0) (hi := 171) rfl ⟨by omega, by omega⟩).put 90 43 (x := y30) (lo := 0) (hi := 171) rfl ⟨by omega, by omega⟩).put 90 47 (x := y43) (lo := 0) (hi := 16) rfl ⟨by omega, by omega⟩).put 90 44 (x := 0) (lo := 0) (hi := 13851) rfl ⟨by decide, by decide⟩).put 90 45 (x := 0) (lo := 0) (hi := 1539) rfl ⟨by decide, by decide⟩).put 90 46 (x := 0) (lo := 0) (hi := 2368521) rfl ⟨by decide, by decide⟩)
    have hF48 := (((((((((pm_fs.rf (cs := [110, 111]) (fs := [42, 43, 44, 45, 46, 47, 48, 49]) (V := V0)).upf 48 ((a1 / 10) % 10) rfl).upf 49 (a1 % 10) rfl).upf 42 y17 rfl).upf 43 y30 rfl).upf 47 y43 rfl).upf 44 0 rfl).upf 45 0 rfl).upf 46 0 rfl)
    obtain ⟨V45, hv46⟩ : ∃ V, V = (pm_up (pm_up (pm_up (pm_up (pm_up (pm_up (pm_up (pm_up V0 90 48 ((a1 / 10) % 10)) 90 49 (a1 % 10)) 90 42 y17) 90 43 y30) 90 47 y43) 90 44 0) 90 45 0) 90 46 0) := ⟨_, rfl⟩
    rw [← hv46] at hV47 hF48
    rw [← hv46]
    replace hT := hT.trans (pf_let_eq hv46.symm)
    have e49 : V45 90 16 = y1 := by rw [hv46]; exact e2
    have e50 : V45 90 18 = 98 := by rw [hv46]; exact e4
    have e51 : V45 90 24 = 100 := by rw [hv46]; exact e8
    have e52 : V45 90 20 = y32 := by rw [hv46]; exact e33
    have e53 : V45 90 48 = ((a1 / 10) % 10) := by rw [hv46]; rfl
    have e54 : V45 90 49 = (a1 % 10) := by rw [hv46]; rfl
    have e55 : V45 90 42 = y17 := by rw [hv46]; rfl
    have e56 : V45 90 43 = y30 := by rw [hv46]; rfl
    have e57 : V45 90 47 = y43 := by rw [hv46]; rfl
    have e58 : V45 90 44 = 0 := by rw [hv46]; rfl
    have e59 : V45 90 45 = 0 := by rw [hv46]; rfl
    have e60 : V45 90 46 = 0 := by rw [hv46]; rfl
    have hp61 : pm_h1 V45 := by rw [hv46]; exact (pm_h1.fr hn_pm_h1 rfl rfl)
    obtain ⟨B84, hB85, hT⟩ := pf_loop hT
    have L87 : ∀ (N89 : Nat) (x62 : Int) (V64 : pm_M), (0 ≤ x62 ∧ x62 ≤ 9) → pm_oq pm_qB V64 → pm_fs [110, 111] [42, 43, 44, 45, 46, 47, 48, 49] V0 V64 → V64 90 16 = y1 → V64 90 18 = 98 → V64 90 24 = 100 → V64 90 20 = y32 → V64 90 48 = ((a1 / 10) % 10) → V64 90 49 = (a1 % 10) → V64 90 42 = y17 → V64 90 43 = y30 → V64 90 47 = y43 → pm_h1 V64 → (V64 90 44 ≤ 1539 * x62) → (V64 90 45 ≤ 171 * x62) → (V64 90 46 ≤ 263169 * x62) → (((a1 / 10) % 10) < x62 → 1 ≤ V64 110 (((a1 / 10) % 10)).toNat) → ((a1 % 10) < x62 → 1 ≤ V64 111 ((a1 % 10)).toNat) → (1 ≤ V64 90 46 → ∃ q : Nat, (q : Int) < x62 ∧ 1 ≤ V64 110 q ∧ 1 ≤ V64 111 q) → (x62 ≤ V64 90 16) → F_X12_works a1 a2 a3 V0 = pf_val ((0 : Int), V0) B84 (x62, V64) → (Int.toNat (9 - x62)) = N89 → pm_J X 163 [(0, (3, 90)), (1, (0, a1)), (2, (0, a2)), (3, (0, a3)), (4, (0, (4 * (a1 / 100)))), (5, (0, y35)), (6, (0, x62))] [] 118 V64 := by
      intro N89
      induction N89 using Nat.strongRecOn with
      | _ N89 ih90 =>
      intro x62 V64 b63 hV65 hF66 e67 e68 e69 e70 e71 e72 e73 e74 e75 hp76 hm77 hm78 hm79 hx80 hx81 hx82 hx83 hT hm88
      have hb86 := congrFun hB85 (x62, V64)
      refine pm_iload hC 6 dX12_works_163 rfl ?_
      refine pm_aload_n hC 0 (by decide) dX12_works_165 rfl ?_
      refine pm_getf (v := y1) hC 90 fl_X12_220 rfl rfl (by decide) rfl e67 dX12_works_166 ?_
      refine pm_icmp_ge (tgt := 337) hC ⟨by omega, by omega⟩ ⟨by omega, by omega⟩ dX12_works_169 (by decide) (fun c91 => ?_) (fun c91 => ?_)
      · skip
        replace hb86 := hb86.trans (if_pos c91)
        have q92 : 1 ≤ V64 90 42 ∧ V64 90 42 ≤ 171 := by (have e : V64 90 42 = y17 := e73); rw [e]; exact ⟨by omega, by omega⟩
        have q93 : 1 ≤ V64 90 43 ∧ V64 90 43 ≤ 171 := by (have e : V64 90 43 = y30 := e74); rw [e]; exact ⟨by omega, by omega⟩
        have hT := hT.trans (pf_val_inr hb86)
        exact pm_vret hC hR ⟨rfl, hV65, hF66, q92, q93, (by unfold pm_w1; rw [e71, e72, e67]; exact ⟨by omega, by omega, by omega, by omega, hx80 (by omega), hx81 (by omega)⟩), (by have hle := hx83; rw [e67] at hle; unfold pm_w3; rw [e67]; intro h; obtain ⟨q, q1, q2, q3⟩ := hx82 h; exact ⟨q, by omega, q2, q3⟩), hT⟩ dX12_works_337
      · skip
        replace hb86 := hb86.trans (if_neg (Int.not_le.mpr c91))
        obtain ⟨y94, e95⟩ : ∃ y, V64 90 44 = y := ⟨_, rfl⟩
        have b96 := hV65.get 90 44 (lo := 0) (hi := 13851) (by decide) (by decide) rfl
        rw [e95] at b96
        replace hb86 := hb86.trans (pf_let_eq e95)
        obtain ⟨y97, e98⟩ : ∃ y, V64 90 45 = y := ⟨_, rfl⟩
        have b99 := hV65.get 90 45 (lo := 0) (hi := 1539) (by decide) (by decide) rfl
        rw [e98] at b99
        replace hb86 := hb86.trans (pf_let_eq e98)
        obtain ⟨y100, e101⟩ : ∃ y, V64 90 46 = y := ⟨_, rfl⟩
        have b102 := hV65.get 90 46 (lo := 0) (hi := 2368521) (by decide) (by decide) rfl
        rw [e101] at b102
        replace hb86 := hb86.trans (pf_let_eq e101)
        refine pm_aload_n hC 0 (by decide) dX12_works_172 rfl ?_
        have e103 : V64 90 40 = 110 := hV65.one 90 40 (by decide) (by decide) rfl
        refine pm_getf (v := 110) hC 90 fl_X12_70 rfl rfl (by decide) rfl e103 dX12_works_173 ?_
        refine pm_iload hC 6 dX12_works_176 rfl ?_
        refine pm_iconst (v := 0) hC dX12_works_178 ?_
        refine pm_aload_n hC 0 (by decide) dX12_works_179 rfl ?_
        have e104 : V64 90 17 = 97 := hV65.one 90 17 (by decide) (by decide) rfl
        refine pm_getf (v := 97) hC 90 fl_X12_31 rfl rfl (by decide) rfl e104 dX12_works_180 ?_
        refine pm_iconst (v := 3) hC dX12_works_183 ?_
        refine pm_iload hC 6 dX12_works_184 rfl ?_
        refine pm_imul hC dX12_works_186 ?_
        refine pm_iconst (v := 2) hC dX12_works_187 ?_
        refine pm_iadd hC dX12_works_188 ?_
        obtain ⟨y105, e106⟩ : ∃ y, V64 97 (((3 * x62) + 2) : Int).toNat = y := ⟨_, rfl⟩
        replace hb86 := hb86.trans (pf_let_eq e106)
        have b107 := hV65.get 97 (((3 * x62) + 2) : Int).toNat (lo := 0) (hi := 9) (t := 0) (by decide) (show _ < 27 by omega) ((pm_qe_r (tb := pm_qB) (k := 97) (i := (((3 * x62) + 2) : Int).toNat) (m := 3) (r := 2) (l := [(0, 99, 0), (0, 99, 0), (0, 9, 0)]) rfl rfl (by omega)).trans rfl)
        rw [e106] at b107
        refine pm_iaload (len := 27) (v := y105) hC 97 rfl rfl (by decide) ⟨by omega, by omega⟩ (by decide) e106 dX12_works_189 ?_
        refine pm_aload_n hC 0 (by decide) dX12_works_190 rfl ?_
        refine pm_getf (v := y17) hC 90 fl_X12_317 rfl rfl (by decide) rfl e73 dX12_works_191 ?_
        refine pm_aload_n hC 0 (by decide) dX12_works_194 rfl ?_
        refine pm_iload hC 6 dX12_works_195 rfl ?_
        refine pm_callV (ci := 12) (as := [(0, x62)]) (st := [(0, y17), (0, y105), (0, 0), (0, x62), (3, 110)]) hC 90 (fB_X12_x x62 ⟨by omega, by omega⟩) lm_X12_335 li_X12_x (by decide) (by decide) rfl rfl rfl (by decide) rfl rfl (Nat.le_of_ble_eq_true rfl) ⟨Nat.le_refl _, Or.inl rfl⟩ dX12_works_197 ⟨rfl, hV65⟩ (fun r108 V109 hp110 => ?_)
        obtain ⟨y111, rfl, b112, rfl, hE113⟩ := hp110
        replace hb86 := hb86.trans (pf_call_eq hE113)
        change pm_J X 200 [(0, (3, 90)), (1, (0, a1)), (2, (0, a2)), (3, (0, a3)), (4, (0, (4 * (a1 / 100)))), (5, (0, y35)), (6, (0, x62))] [(0, y111), (0, y17), (0, y105), (0, 0), (0, x62), (3, 110)] 118 V64
        refine pm_aload_n hC 0 (by decide) dX12_works_200 rfl ?_
        refine pm_aload_n hC 0 (by decide) dX12_works_201 rfl ?_
        refine pm_getf (v := ((a1 / 10) % 10)) hC 90 fl_X12_305 rfl rfl (by decide) rfl e71 dX12_works_202 ?_
        refine pm_callV (ci := 12) (as := [(0, ((a1 / 10) % 10))]) (st := [(0, y111), (0, y17), (0, y105), (0, 0), (0, x62), (3, 110)]) hC 90 (fB_X12_x ((a1 / 10) % 10) ⟨by omega, by omega⟩) lm_X12_335 li_X12_x (by decide) (by decide) rfl rfl rfl (by decide) rfl rfl (Nat.le_of_ble_eq_true rfl) ⟨Nat.le_refl _, Or.inl rfl⟩ dX12_works_205 ⟨rfl, hV65⟩ (fun r114 V115 hp116 => ?_)
        obtain ⟨y117, rfl, b118, rfl, hE119⟩ := hp116
        replace hb86 := hb86.trans (pf_call_eq hE119)
        change pm_J X 208 [(0, (3, 90)), (1, (0, a1)), (2, (0, a2)), (3, (0, a3)), (4, (0, (4 * (a1 / 100)))), (5, (0, y35)), (6, (0, x62))] [(0, y117), (0, y111), (0, y17), (0, y105), (0, 0), (0, x62), (3, 110)] 118 V64
        refine pm_isub hC dX12_works_208 ?_
        refine pm_callS (as := [(0, (y111 - y117))]) (st := [(0, y17), (0, y105), (0, 0), (0, x62), (3, 110)]) hC (fB_X12_far (y111 - y117) ⟨by omega, by omega⟩) lm_X12_338 ls_X12_far (by decide) (by decide) rfl rfl (Nat.le_of_ble_eq_true rfl) ⟨Nat.le_refl _, Or.inl rfl⟩ dX12_works_209 ⟨rfl, hV65⟩ (fun r120 V121 hp122 => ?_)
        obtain ⟨y123, rfl, b124, rfl, hE125⟩ := hp122
        replace hb86 := hb86.trans (pf_call_eq hE125)
        change pm_J X 212 [(0, (3, 90)), (1, (0, a1)), (2, (0, a2)), (3, (0, a3)), (4, (0, (4 * (a1 / 100)))), (5, (0, y35)), (6, (0, x62))] [(0, y123), (0, y17), (0, y105), (0, 0), (0, x62), (3, 110)] 118 V64
        refine pm_isub hC dX12_works_212 ?_
        refine pm_aload_n hC 0 (by decide) dX12_works_213 rfl ?_
        refine pm_iload hC 6 dX12_works_214 rfl ?_
        refine pm_callV (ci := 12) (as := [(0, x62)]) (st := [(0, (y17 - y123)), (0, y105), (0, 0), (0, x62), (3, 110)]) hC 90 (fB_X12_y x62 ⟨by omega, by omega⟩) lm_X12_341 li_X12_y (by decide) (by decide) rfl rfl rfl (by decide) rfl rfl (Nat.le_of_ble_eq_true rfl) ⟨Nat.le_refl _, Or.inl rfl⟩ dX12_works_216 ⟨rfl, hV65⟩ (fun r126 V127 hp128 => ?_)
        obtain ⟨y129, rfl, b130, rfl, hE131⟩ := hp128
        replace hb86 := hb86.trans (pf_call_eq hE131)
        change pm_J X 219 [(0, (3, 90)), (1, (0, a1)), (2, (0, a2)), (3, (0, a3)), (4, (0, (4 * (a1 / 100)))), (5, (0, y35)), (6, (0, x62))] [(0, y129), (0, (y17 - y123)), (0, y105), (0, 0), (0, x62), (3, 110)] 118 V64
        refine pm_aload_n hC 0 (by decide) dX12_works_219 rfl ?_
        refine pm_aload_n hC 0 (by decide) dX12_works_220 rfl ?_
        refine pm_getf (v := ((a1 / 10) % 10)) hC 90 fl_X12_305 rfl rfl (by decide) rfl e71 dX12_works_221 ?_
        refine pm_callV (ci := 12) (as := [(0, ((a1 / 10) % 10))]) (st := [(0, y129), (0, (y17 - y123)), (0, y105), (0, 0), (0, x62), (3, 110)]) hC 90 (fB_X12_y ((a1 / 10) % 10) ⟨by omega, by omega⟩) lm_X12_341 li_X12_y (by decide) (by decide) rfl rfl rfl (by decide) rfl rfl (Nat.le_of_ble_eq_true rfl) ⟨Nat.le_refl _, Or.inl rfl⟩ dX12_works_224 ⟨rfl, hV65⟩ (fun r132 V133 hp134 => ?_)
        obtain ⟨y135, rfl, b136, rfl, hE137⟩ := hp134
        replace hb86 := hb86.trans (pf_call_eq hE137)
        change pm_J X 227 [(0, (3, 90)), (1, (0, a1)), (2, (0, a2)), (3, (0, a3)), (4, (0, (4 * (a1 / 100)))), (5, (0, y35)), (6, (0, x62))] [(0, y135), (0, y129), (0, (y17 - y123)), (0, y105), (0, 0), (0, x62), (3, 110)] 118 V64
        refine pm_isub hC dX12_works_227 ?_
        refine pm_callS (as := [(0, (y129 - y135))]) (st := [(0, (y17 - y123)), (0, y105), (0, 0), (0, x62), (3, 110)]) hC (fB_X12_far (y129 - y135) ⟨by omega, by omega⟩) lm_X12_338 ls_X12_far (by decide) (by decide) rfl rfl (Nat.le_of_ble_eq_true rfl) ⟨Nat.le_refl _, Or.inl rfl⟩ dX12_works_228 ⟨rfl, hV65⟩ (fun r138 V139 hp140 => ?_)
        obtain ⟨y141, rfl, b142, rfl, hE143⟩ := hp140
        replace hb86 := hb86.trans (pf_call_eq hE143)
        change pm_J X 231 [(0, (3, 90)), (1, (0, a1)), (2, (0, a2)), (3, (0, a3)), (4, (0, (4 * (a1 / 100)))), (5, (0, y35)), (6, (0, x62))] [(0, y141), (0, (y17 - y123)), (0, y105), (0, 0), (0, x62), (3, 110)] 118 V64
        refine pm_isub hC dX12_works_231 ?_
        refine pm_imul hC dX12_works_232 ?_
        have b145 : (-1773) ≤ (y105 * ((y17 - y123) - y141)) ∧ (y105 * ((y17 - y123) - y141)) ≤ 1539 := pm_mulg (a := 0) (b := 9) (c := (-197)) (d := 171) ⟨by omega, by omega⟩ ⟨by omega, by omega⟩ (by decide) (by decide)
        obtain ⟨y144, hey144⟩ : ∃ z, (y105 * ((y17 - y123) - y141)) = z := ⟨_, rfl⟩
        rw [hey144] at b145 ⊢
        replace hb86 := hb86.trans (pf_let_eq hey144)
        refine pm_mmax hC 7047 4012 1018 4013 ⟨by decide, by decide⟩ ⟨by omega, by omega⟩ (by decide) wL_X12_311 wS_mmax wI_math wC_mmax (Nat.le_of_ble_eq_true rfl) dX12_works_233 (fun y146 b147 => ?_)
        replace b147 : 0 ≤ y146 ∧ y146 ≤ 1539 ∧ 0 ≤ y146 ∧ y144 ≤ y146 := ⟨by omega, by omega, b147.1, b147.2.1⟩
        have hv148 : ((a1 / 10) % 10) = x62 → 1 ≤ y146 := by
          intro hq
          have q1 : V64 97 (3 * x62).toNat = V64 97 (3 * ((a1 / 10) % 10)).toNat := by rw [hq]
          have q2 : V64 97 (3 * x62 + 1).toNat = V64 97 (3 * ((a1 / 10) % 10) + 1).toNat := by rw [hq]
          have hh := hp76 x62 (by omega) (by omega)
          have hfz0 : y123 = 0 := pm_far0 b124 (by omega)
          have hfz1 : y141 = 0 := pm_far0 b142 (by omega)
          have hp : 1 ≤ y105 * ((y17 - y123) - y141) := pm_mul1 (by omega) (by omega)
          omega
        refine pm_iastore (len := 9) hC 110 rfl rfl (by decide) ⟨by omega, by omega⟩ (by decide) dX12_works_236 ?_
        refine pm_aload_n hC 0 (by decide) dX12_works_237 rfl ?_
        have e149 : V64 90 41 = 111 := hV65.one 90 41 (by decide) (by decide) rfl
        refine pm_getf (v := 111) hC 90 fl_X12_73 rfl rfl (by decide) rfl e149 dX12_works_238 ?_
        refine pm_iload hC 6 dX12_works_241 rfl ?_
        refine pm_iconst (v := 0) hC dX12_works_243 ?_
        refine pm_aload_n hC 0 (by decide) dX12_works_244 rfl ?_
        refine pm_getf (v := y30) hC 90 fl_X12_320 rfl rfl (by decide) rfl e74 dX12_works_245 ?_
        refine pm_aload_n hC 0 (by decide) dX12_works_248 rfl ?_
        refine pm_iload hC 6 dX12_works_249 rfl ?_
        refine pm_callV (ci := 12) (as := [(0, x62)]) (st := [(0, y30), (0, 0), (0, x62), (3, 111)]) hC 90 (fB_X12_x x62 ⟨by omega, by omega⟩) lm_X12_335 li_X12_x (by decide) (by decide) rfl rfl rfl (by decide) rfl rfl (Nat.le_of_ble_eq_true rfl) ⟨Nat.le_refl _, Or.inl rfl⟩ dX12_works_251 ⟨rfl, (hV65.put 110 (x62 : Int).toNat (x := y146) (lo := 0) (hi := 1539) rfl ⟨by omega, by omega⟩)⟩ (fun r150 V151 hp152 => ?_)
        obtain ⟨y153, rfl, b154, rfl, hE155⟩ := hp152
        replace hb86 := hb86.trans (pf_call_eq hE155)
        change pm_J X 254 [(0, (3, 90)), (1, (0, a1)), (2, (0, a2)), (3, (0, a3)), (4, (0, (4 * (a1 / 100)))), (5, (0, y35)), (6, (0, x62))] [(0, y153), (0, y30), (0, 0), (0, x62), (3, 111)] 118 (pm_up V64 110 (x62 : Int).toNat y146)
        refine pm_aload_n hC 0 (by decide) dX12_works_254 rfl ?_
        refine pm_aload_n hC 0 (by decide) dX12_works_255 rfl ?_
        refine pm_getf (v := (a1 % 10)) hC 90 fl_X12_308 rfl rfl (by decide) rfl e72 dX12_works_256 ?_
        refine pm_callV (ci := 12) (as := [(0, (a1 % 10))]) (st := [(0, y153), (0, y30), (0, 0), (0, x62), (3, 111)]) hC 90 (fB_X12_x (a1 % 10) ⟨by omega, by omega⟩) lm_X12_335 li_X12_x (by decide) (by decide) rfl rfl rfl (by decide) rfl rfl (Nat.le_of_ble_eq_true rfl) ⟨Nat.le_refl _, Or.inl rfl⟩ dX12_works_259 ⟨rfl, (hV65.put 110 (x62 : Int).toNat (x := y146) (lo := 0) (hi := 1539) rfl ⟨by omega, by omega⟩)⟩ (fun r156 V157 hp158 => ?_)
        obtain ⟨y159, rfl, b160, rfl, hE161⟩ := hp158
        replace hb86 := hb86.trans (pf_call_eq hE161)
        change pm_J X 262 [(0, (3, 90)), (1, (0, a1)), (2, (0, a2)), (3, (0, a3)), (4, (0, (4 * (a1 / 100)))), (5, (0, y35)), (6, (0, x62))] [(0, y159), (0, y153), (0, y30), (0, 0), (0, x62), (3, 111)] 118 (pm_up V64 110 (x62 : Int).toNat y146)
        refine pm_isub hC dX12_works_262 ?_
        refine pm_callS (as := [(0, (y153 - y159))]) (st := [(0, y30), (0, 0), (0, x62), (3, 111)]) hC (fB_X12_far (y153 - y159) ⟨by omega, by omega⟩) lm_X12_338 ls_X12_far (by decide) (by decide) rfl rfl (Nat.le_of_ble_eq_true rfl) ⟨Nat.le_refl _, Or.inl rfl⟩ dX12_works_263 ⟨rfl, (hV65.put 110 (x62 : Int).toNat (x := y146) (lo := 0) (hi := 1539) rfl ⟨by omega, by omega⟩)⟩ (fun r162 V163 hp164 => ?_)
        obtain ⟨y165, rfl, b166, rfl, hE167⟩ := hp164
        replace hb86 := hb86.trans (pf_call_eq hE167)
        change pm_J X 266 [(0, (3, 90)), (1, (0, a1)), (2, (0, a2)), (3, (0, a3)), (4, (0, (4 * (a1 / 100)))), (5, (0, y35)), (6, (0, x62))] [(0, y165), (0, y30), (0, 0), (0, x62), (3, 111)] 118 (pm_up V64 110 (x62 : Int).toNat y146)
        refine pm_isub hC dX12_works_266 ?_
        refine pm_mmax hC 7047 4012 1018 4013 ⟨by decide, by decide⟩ ⟨by omega, by omega⟩ (by decide) wL_X12_311 wS_mmax wI_math wC_mmax (Nat.le_of_ble_eq_true rfl) dX12_works_267 (fun y168 b169 => ?_)
        replace b169 : 0 ≤ y168 ∧ y168 ≤ 171 ∧ 0 ≤ y168 ∧ (y30 - y165) ≤ y168 := ⟨by omega, by omega, b169.1, b169.2.1⟩
        have hv170 : (a1 % 10) = x62 → 1 ≤ y168 := by
          intro hq
          have q1 : (pm_up V64 110 (x62 : Int).toNat y146) 97 (3 * x62).toNat = (pm_up V64 110 (x62 : Int).toNat y146) 97 (3 * (a1 % 10)).toNat := by rw [hq]
          have hfz0 : y165 = 0 := pm_far0 b166 (by omega)
          omega
        refine pm_iastore (len := 9) hC 111 rfl rfl (by decide) ⟨by omega, by omega⟩ (by decide) dX12_works_270 ?_
        refine pm_aload_n hC 0 (by decide) dX12_works_271 rfl ?_
        refine pm_dup hC rfl dX12_works_272 ?_
        refine pm_getf (v := y94) hC 90 fl_X12_326 rfl rfl (by decide) rfl e95 dX12_works_273 ?_
        refine pm_aload_n hC 0 (by decide) dX12_works_276 rfl ?_
        refine pm_getf (v := 110) hC 90 fl_X12_70 rfl rfl (by decide) rfl e103 dX12_works_277 ?_
        refine pm_iload hC 6 dX12_works_280 rfl ?_
        have hV173 := ((hV65.put 110 (x62 : Int).toNat (x := y146) (lo := 0) (hi := 1539) rfl ⟨by omega, by omega⟩).put 111 (x62 : Int).toNat (x := y168) (lo := 0) (hi := 171) rfl ⟨by omega, by omega⟩)
        have hF174 := ((hF66.up 110 (x62 : Int).toNat y146 (by decide) rfl).up 111 (x62 : Int).toNat y168 (by decide) rfl)
        obtain ⟨V171, hv172⟩ : ∃ V, V = (pm_up (pm_up V64 110 (x62 : Int).toNat y146) 111 (x62 : Int).toNat y168) := ⟨_, rfl⟩
        rw [← hv172] at hV173 hF174
        rw [← hv172]
        replace hb86 := hb86.trans (pf_let_eq hv172.symm)
        have e175 : V171 90 16 = y1 := by rw [hv172]; exact e67
        have e176 : V171 90 18 = 98 := by rw [hv172]; exact e68
        have e177 : V171 90 24 = 100 := by rw [hv172]; exact e69
        have e178 : V171 90 20 = y32 := by rw [hv172]; exact e70
        have e179 : V171 90 48 = ((a1 / 10) % 10) := by rw [hv172]; exact e71
        have e180 : V171 90 49 = (a1 % 10) := by rw [hv172]; exact e72
        have e181 : V171 90 42 = y17 := by rw [hv172]; exact e73
        have e182 : V171 90 43 = y30 := by rw [hv172]; exact e74
        have e183 : V171 90 47 = y43 := by rw [hv172]; exact e75
        have e184 : V171 90 44 = y94 := by rw [hv172]; exact e95
        have e185 : V171 90 45 = y97 := by rw [hv172]; exact e98
        have e186 : V171 90 46 = y100 := by rw [hv172]; exact e101
        have e187 : V171 90 40 = 110 := by rw [hv172]; exact e103
        have e188 : V171 90 17 = 97 := by rw [hv172]; exact e104
        have e189 : V171 90 41 = 111 := by rw [hv172]; exact e149
        have hp190 : pm_h1 V171 := by rw [hv172]; exact (pm_h1.fr hp76 rfl rfl)
        obtain ⟨y191, e192⟩ : ∃ y, V171 110 (x62 : Int).toNat = y := ⟨_, rfl⟩
        replace hb86 := hb86.trans (pf_let_eq e192)
        have b193 := hV173.get 110 (x62 : Int).toNat (lo := 0) (hi := 1539) (t := 0) (by decide) (show _ < 9 by omega) rfl
        rw [e192] at b193
        refine pm_iaload (len := 9) (v := y191) hC 110 rfl rfl (by decide) ⟨by omega, by omega⟩ (by decide) e192 dX12_works_282 ?_
        refine pm_i2l hC ⟨by omega, by omega⟩ dX12_works_283 ?_
        refine pm_ladd hC dX12_works_284 ?_
        refine pm_putf hC 90 fl_X12_326 rfl rfl rfl (by decide) rfl trivial dX12_works_285 ?_
        refine pm_aload_n hC 0 (by decide) dX12_works_288 rfl ?_
        refine pm_dup hC rfl dX12_works_289 ?_
        refine pm_getf (v := y97) hC 90 fl_X12_329 rfl rfl (by decide) rfl e185 dX12_works_290 ?_
        refine pm_aload_n hC 0 (by decide) dX12_works_293 rfl ?_
        refine pm_getf (v := 111) hC 90 fl_X12_73 rfl rfl (by decide) rfl e189 dX12_works_294 ?_
        refine pm_iload hC 6 dX12_works_297 rfl ?_
        obtain ⟨y194, e195⟩ : ∃ y, V171 111 (x62 : Int).toNat = y := ⟨_, rfl⟩
        replace hb86 := hb86.trans (pf_let_eq e195)
        have b196 := hV173.get 111 (x62 : Int).toNat (lo := 0) (hi := 171) (t := 0) (by decide) (show _ < 9 by omega) rfl
        rw [e195] at b196
        refine pm_iaload (len := 9) (v := y194) hC 111 rfl rfl (by decide) ⟨by omega, by omega⟩ (by decide) e195 dX12_works_299 ?_
        refine pm_i2l hC ⟨by omega, by omega⟩ dX12_works_300 ?_
        refine pm_ladd hC dX12_works_301 ?_
        refine pm_putf hC 90 fl_X12_329 rfl rfl rfl (by decide) rfl trivial dX12_works_302 ?_
        refine pm_aload_n hC 0 (by decide) dX12_works_305 rfl ?_
        refine pm_dup hC rfl dX12_works_306 ?_
        refine pm_getf (v := y100) hC 90 fl_X12_332 rfl rfl (by decide) rfl e186 dX12_works_307 ?_
        refine pm_aload_n hC 0 (by decide) dX12_works_310 rfl ?_
        refine pm_getf (v := 110) hC 90 fl_X12_70 rfl rfl (by decide) rfl e187 dX12_works_311 ?_
        refine pm_iload hC 6 dX12_works_314 rfl ?_
        refine pm_iaload (len := 9) (v := y191) hC 110 rfl rfl (by decide) ⟨by omega, by omega⟩ (by decide) e192 dX12_works_316 ?_
        refine pm_i2l hC ⟨by omega, by omega⟩ dX12_works_317 ?_
        refine pm_aload_n hC 0 (by decide) dX12_works_318 rfl ?_
        refine pm_getf (v := 111) hC 90 fl_X12_73 rfl rfl (by decide) rfl e189 dX12_works_319 ?_
        refine pm_iload hC 6 dX12_works_322 rfl ?_
        refine pm_iaload (len := 9) (v := y194) hC 111 rfl rfl (by decide) ⟨by omega, by omega⟩ (by decide) e195 dX12_works_324 ?_
        refine pm_i2l hC ⟨by omega, by omega⟩ dX12_works_325 ?_
        refine pm_lmul hC dX12_works_326 ?_
        have b198 : 0 ≤ (y191 * y194) ∧ (y191 * y194) ≤ 263169 := pm_mulb (by omega) (by omega) (show y191 ≤ 1539 by omega) (show y194 ≤ 171 by omega) (by decide)
        obtain ⟨y197, hey197⟩ : ∃ z, (y191 * y194) = z := ⟨_, rfl⟩
        rw [hey197] at b198 ⊢
        replace hb86 := hb86.trans (pf_let_eq hey197)
        refine pm_ladd hC dX12_works_327 ?_
        refine pm_putf hC 90 fl_X12_332 rfl rfl rfl (by decide) rfl trivial dX12_works_328 ?_
        obtain ⟨x199, ei200⟩ : ∃ y : Int, x62 + 1 = y := ⟨_, rfl⟩
        replace hb86 := hb86.trans (pf_let_eq ei200)
        refine pm_iinc (y := x199) (lv' := [(6, (0, x199)), (0, (3, 90)), (1, (0, a1)), (2, (0, a2)), (3, (0, a3)), (4, (0, (4 * (a1 / 100)))), (5, (0, y35))]) hC 6 dX12_works_331 (by decide) rfl ei200 rfl ?_
        refine pm_goto (tgt := 163) hC dX12_works_334 (by decide) ?_
        refine pm_lvsub [1, 2, 3, 4, 5, 6, 0] (lv' := [(0, (3, 90)), (1, (0, a1)), (2, (0, a2)), (3, (0, a3)), (4, (0, (4 * (a1 / 100)))), (5, (0, y35)), (6, (0, x199))]) rfl ?_
        exact ih90 _ (by omega) x199 (pm_up (pm_up (pm_up V171 90 44 (y94 + y191)) 90 45 (y97 + y194)) 90 46 (y100 + y197)) ⟨by omega, by omega⟩ (((hV173.put 90 44 (x := (y94 + y191)) (lo := 0) (hi := 13851) rfl ⟨by omega, by omega⟩).put 90 45 (x := (y97 + y194)) (lo := 0) (hi := 1539) rfl ⟨by omega, by omega⟩).put 90 46 (x := (y100 + y197)) (lo := 0) (hi := 2368521) rfl ⟨by omega, by omega⟩) (((hF174.upf 44 (y94 + y191) rfl).upf 45 (y97 + y194) rfl).upf 46 (y100 + y197) rfl) e175 e176 e177 e178 e179 e180 e181 e182 e183 (pm_h1.fr hp190 rfl rfl) (show (y94 + y191) ≤ 1539 * x199 by omega) (show (y97 + y194) ≤ 171 * x199 by omega) (show (y100 + y197) ≤ 263169 * x199 by omega) (fun h => by show 1 ≤ V171 110 (((a1 / 10) % 10)).toNat; rw [hv172]; exact pm_up_get (V := V64) (k := 110) (i := x62) (a := ((a1 / 10) % 10)) (x := y146) (p := fun z => 1 ≤ z) (by omega) (by omega) hv148 (fun hne => hx80 (by omega))) (fun h => by show 1 ≤ V171 111 ((a1 % 10)).toNat; rw [hv172]; exact pm_up_get (V := V64) (k := 111) (i := x62) (a := (a1 % 10)) (x := y168) (p := fun z => 1 ≤ z) (by omega) (by omega) hv170 (fun hne => hx81 (by omega))) (fun h => by have h9 : 1 ≤ (y100 + y197) := h; (by_cases hy : 1 ≤ y197); (have hm : y191 * y194 = y197 := hey197; obtain ⟨m1, m2⟩ := pm_mulpos (x := y191) (y := y194) (by omega) (by omega) (by rw [hm]; exact hy); exact ⟨((x62) : Int).toNat, by omega, by (show 1 ≤ V171 110 ((x62) : Int).toNat; rw [e192]; exact m1), by (show 1 ≤ V171 111 ((x62) : Int).toNat; rw [e195]; exact m2)⟩); (obtain ⟨q, q1, q2, q3⟩ := hx82 (by (have h46 : V64 90 46 = V171 90 46 := by rw [hv172]; rfl); rw [h46, e186]; omega); exact ⟨q, by omega, by (show 1 ≤ V171 110 q; rw [hv172, pm_up_c (by decide), pm_up_i (by omega)]; exact q2), by (show 1 ≤ V171 111 q; rw [hv172, pm_up_i (by omega), pm_up_c (by decide)]; exact q3)⟩)) (by show x199 ≤ V171 90 16; rw [e175]; omega) (hT.trans (pf_val_inl hb86)) rfl
    refine pm_lvsub [3, 4, 5, 6, 2, 1, 0] (lv' := [(0, (3, 90)), (1, (0, a1)), (2, (0, a2)), (3, (0, a3)), (4, (0, (4 * (a1 / 100)))), (5, (0, y35)), (6, (0, 0))]) rfl ?_
    exact L87 _ 0 V45 ⟨by decide, by decide⟩ hV47 hF48 e49 e50 e51 e52 e53 e54 e55 e56 e57 hp61 (by (have e : V45 90 44 = 0 := e58); rw [e]; omega) (by (have e : V45 90 45 = 0 := e59); rw [e]; omega) (by (have e : V45 90 46 = 0 := e60); rw [e]; omega) (fun h => absurd h (by omega)) (fun h => absurd h (by omega)) (fun h => absurd h (by rw [e60]; decide)) (by rw [e49]; omega) hT rfl
  · skip
    replace hT := hT.trans (if_neg (Int.not_lt.mpr c40))
    refine pm_iload_n hC 5 dX12_works_124 rfl ?_
    refine pm_aload_n hC 2 (by decide) dX12_works_125 rfl ?_
    refine pm_getf (v := y32) hC 90 fl_X12_229 rfl rfl (by decide) rfl e33 dX12_works_126 ?_
    refine pm_idiv hC ⟨by omega, by omega, by omega⟩ ⟨by omega, by omega, by omega⟩ dX12_works_129 ?_
    have b202 := pm_divb (x := a3) (y := y32) (by omega) (by omega)
    obtain ⟨y201, hey201⟩ : ∃ z, (a3 / y32) = z := ⟨_, rfl⟩
    rw [hey201] at b202 ⊢
    replace hT := hT.trans (pf_let_eq hey201)
    refine pm_goto (tgt := 138) hC dX12_works_130 (by decide) ?_
    refine pm_isub hC dX12_works_138 ?_
    refine pm_mmax hC 7047 4012 1018 4013 ⟨by decide, by decide⟩ ⟨by omega, by omega⟩ (by decide) wL_X12_311 wS_mmax wI_math wC_mmax (Nat.le_of_ble_eq_true rfl) dX12_works_139 (fun y203 b204 => ?_)
    replace b204 : 0 ≤ y203 ∧ y203 ≤ 16 ∧ 0 ≤ y203 ∧ (y37 - y201) ≤ y203 := ⟨by omega, by omega, b204.1, b204.2.1⟩
    refine pm_putf hC 90 fl_X12_323 rfl rfl rfl (by decide) rfl trivial dX12_works_142 ?_
    refine pm_aload_n hC 2 (by decide) dX12_works_145 rfl ?_
    refine pm_lconst (x := 0) hC dX12_works_146 rfl ?_
    refine pm_putf hC 90 fl_X12_326 rfl rfl rfl (by decide) rfl trivial dX12_works_147 ?_
    refine pm_aload_n hC 2 (by decide) dX12_works_150 rfl ?_
    refine pm_lconst (x := 0) hC dX12_works_151 rfl ?_
    refine pm_putf hC 90 fl_X12_329 rfl rfl rfl (by decide) rfl trivial dX12_works_152 ?_
    refine pm_aload_n hC 2 (by decide) dX12_works_155 rfl ?_
    refine pm_lconst (x := 0) hC dX12_works_156 rfl ?_
    refine pm_putf hC 90 fl_X12_332 rfl rfl rfl (by decide) rfl trivial dX12_works_157 ?_
    refine pm_iconst (v := 0) hC dX12_works_160 ?_
    refine pm_istore (lv' := [(6, (0, 0)), (5, (0, y35)), (4, (0, (4 * (a1 / 100)))), (0, (3, 90)), (1, (0, a1)), (2, (0, a2)), (3, (0, a3))]) hC dX12_works_161 (by decide) rfl ?_
    have hV207 := ((((((((hV0.put 90 48 (x := ((a1 / 10) % 10)) (lo := 0) (hi := 8) rfl ⟨by omega, by omega⟩).put 90 49 (x := (a1 % 10)) (lo := 0) (hi := 8) rfl ⟨by omega, by omega⟩).put 90 42 (x := y17) (lo := 0) (hi := 171) rfl ⟨by omega, by omega⟩).put 90 43 (x := y30) (lo := 0) (hi := 171) rfl ⟨by omega, by omega⟩).put 90 47 (x := y203) (lo := 0) (hi := 16) rfl ⟨by omega, by omega⟩).put 90 44 (x := 0) (lo := 0) (hi := 13851) rfl ⟨by decide, by decide⟩).put 90 45 (x := 0) (lo := 0) (hi := 1539) rfl ⟨by decide, by decide⟩).put 90 46 (x := 0) (lo := 0) (hi := 2368521) rfl ⟨by decide, by decide⟩)
    have hF208 := (((((((((pm_fs.rf (cs := [110, 111]) (fs := [42, 43, 44, 45, 46, 47, 48, 49]) (V := V0)).upf 48 ((a1 / 10) % 10) rfl).upf 49 (a1 % 10) rfl).upf 42 y17 rfl).upf 43 y30 rfl).upf 47 y203 rfl).upf 44 0 rfl).upf 45 0 rfl).upf 46 0 rfl)
    obtain ⟨V205, hv206⟩ : ∃ V, V = (pm_up (pm_up (pm_up (pm_up (pm_up (pm_up (pm_up (pm_up V0 90 48 ((a1 / 10) % 10)) 90 49 (a1 % 10)) 90 42 y17) 90 43 y30) 90 47 y203) 90 44 0) 90 45 0) 90 46 0) := ⟨_, rfl⟩
    rw [← hv206] at hV207 hF208
    rw [← hv206]
    replace hT := hT.trans (pf_let_eq hv206.symm)
    have e209 : V205 90 16 = y1 := by rw [hv206]; exact e2
    have e210 : V205 90 18 = 98 := by rw [hv206]; exact e4
    have e211 : V205 90 24 = 100 := by rw [hv206]; exact e8
    have e212 : V205 90 20 = y32 := by rw [hv206]; exact e33
    have e213 : V205 90 48 = ((a1 / 10) % 10) := by rw [hv206]; rfl
    have e214 : V205 90 49 = (a1 % 10) := by rw [hv206]; rfl
    have e215 : V205 90 42 = y17 := by rw [hv206]; rfl
    have e216 : V205 90 43 = y30 := by rw [hv206]; rfl
    have e217 : V205 90 47 = y203 := by rw [hv206]; rfl
    have e218 : V205 90 44 = 0 := by rw [hv206]; rfl
    have e219 : V205 90 45 = 0 := by rw [hv206]; rfl
    have e220 : V205 90 46 = 0 := by rw [hv206]; rfl
    have hp221 : pm_h1 V205 := by rw [hv206]; exact (pm_h1.fr hn_pm_h1 rfl rfl)
    obtain ⟨B244, hB245, hT⟩ := pf_loop hT
    have L247 : ∀ (N249 : Nat) (x222 : Int) (V224 : pm_M), (0 ≤ x222 ∧ x222 ≤ 9) → pm_oq pm_qB V224 → pm_fs [110, 111] [42, 43, 44, 45, 46, 47, 48, 49] V0 V224 → V224 90 16 = y1 → V224 90 18 = 98 → V224 90 24 = 100 → V224 90 20 = y32 → V224 90 48 = ((a1 / 10) % 10) → V224 90 49 = (a1 % 10) → V224 90 42 = y17 → V224 90 43 = y30 → V224 90 47 = y203 → pm_h1 V224 → (V224 90 44 ≤ 1539 * x222) → (V224 90 45 ≤ 171 * x222) → (V224 90 46 ≤ 263169 * x222) → (((a1 / 10) % 10) < x222 → 1 ≤ V224 110 (((a1 / 10) % 10)).toNat) → ((a1 % 10) < x222 → 1 ≤ V224 111 ((a1 % 10)).toNat) → (1 ≤ V224 90 46 → ∃ q : Nat, (q : Int) < x222 ∧ 1 ≤ V224 110 q ∧ 1 ≤ V224 111 q) → (x222 ≤ V224 90 16) → F_X12_works a1 a2 a3 V0 = pf_val ((0 : Int), V0) B244 (x222, V224) → (Int.toNat (9 - x222)) = N249 → pm_J X 163 [(0, (3, 90)), (1, (0, a1)), (2, (0, a2)), (3, (0, a3)), (4, (0, (4 * (a1 / 100)))), (5, (0, y35)), (6, (0, x222))] [] 118 V224 := by
      intro N249
      induction N249 using Nat.strongRecOn with
      | _ N249 ih250 =>
      intro x222 V224 b223 hV225 hF226 e227 e228 e229 e230 e231 e232 e233 e234 e235 hp236 hm237 hm238 hm239 hx240 hx241 hx242 hx243 hT hm248
      have hb246 := congrFun hB245 (x222, V224)
      refine pm_iload hC 6 dX12_works_163 rfl ?_
      refine pm_aload_n hC 0 (by decide) dX12_works_165 rfl ?_
      refine pm_getf (v := y1) hC 90 fl_X12_220 rfl rfl (by decide) rfl e227 dX12_works_166 ?_
      refine pm_icmp_ge (tgt := 337) hC ⟨by omega, by omega⟩ ⟨by omega, by omega⟩ dX12_works_169 (by decide) (fun c251 => ?_) (fun c251 => ?_)
      · skip
        replace hb246 := hb246.trans (if_pos c251)
        have q252 : 1 ≤ V224 90 42 ∧ V224 90 42 ≤ 171 := by (have e : V224 90 42 = y17 := e233); rw [e]; exact ⟨by omega, by omega⟩
        have q253 : 1 ≤ V224 90 43 ∧ V224 90 43 ≤ 171 := by (have e : V224 90 43 = y30 := e234); rw [e]; exact ⟨by omega, by omega⟩
        have hT := hT.trans (pf_val_inr hb246)
        exact pm_vret hC hR ⟨rfl, hV225, hF226, q252, q253, (by unfold pm_w1; rw [e231, e232, e227]; exact ⟨by omega, by omega, by omega, by omega, hx240 (by omega), hx241 (by omega)⟩), (by have hle := hx243; rw [e227] at hle; unfold pm_w3; rw [e227]; intro h; obtain ⟨q, q1, q2, q3⟩ := hx242 h; exact ⟨q, by omega, q2, q3⟩), hT⟩ dX12_works_337
      · skip
        replace hb246 := hb246.trans (if_neg (Int.not_le.mpr c251))
        obtain ⟨y254, e255⟩ : ∃ y, V224 90 44 = y := ⟨_, rfl⟩
        have b256 := hV225.get 90 44 (lo := 0) (hi := 13851) (by decide) (by decide) rfl
        rw [e255] at b256
        replace hb246 := hb246.trans (pf_let_eq e255)
        obtain ⟨y257, e258⟩ : ∃ y, V224 90 45 = y := ⟨_, rfl⟩
        have b259 := hV225.get 90 45 (lo := 0) (hi := 1539) (by decide) (by decide) rfl
        rw [e258] at b259
        replace hb246 := hb246.trans (pf_let_eq e258)
        obtain ⟨y260, e261⟩ : ∃ y, V224 90 46 = y := ⟨_, rfl⟩
        have b262 := hV225.get 90 46 (lo := 0) (hi := 2368521) (by decide) (by decide) rfl
        rw [e261] at b262
        replace hb246 := hb246.trans (pf_let_eq e261)
        refine pm_aload_n hC 0 (by decide) dX12_works_172 rfl ?_
        have e263 : V224 90 40 = 110 := hV225.one 90 40 (by decide) (by decide) rfl
        refine pm_getf (v := 110) hC 90 fl_X12_70 rfl rfl (by decide) rfl e263 dX12_works_173 ?_
        refine pm_iload hC 6 dX12_works_176 rfl ?_
        refine pm_iconst (v := 0) hC dX12_works_178 ?_
        refine pm_aload_n hC 0 (by decide) dX12_works_179 rfl ?_
        have e264 : V224 90 17 = 97 := hV225.one 90 17 (by decide) (by decide) rfl
        refine pm_getf (v := 97) hC 90 fl_X12_31 rfl rfl (by decide) rfl e264 dX12_works_180 ?_
        refine pm_iconst (v := 3) hC dX12_works_183 ?_
        refine pm_iload hC 6 dX12_works_184 rfl ?_
        refine pm_imul hC dX12_works_186 ?_
        refine pm_iconst (v := 2) hC dX12_works_187 ?_
        refine pm_iadd hC dX12_works_188 ?_
        obtain ⟨y265, e266⟩ : ∃ y, V224 97 (((3 * x222) + 2) : Int).toNat = y := ⟨_, rfl⟩
        replace hb246 := hb246.trans (pf_let_eq e266)
        have b267 := hV225.get 97 (((3 * x222) + 2) : Int).toNat (lo := 0) (hi := 9) (t := 0) (by decide) (show _ < 27 by omega) ((pm_qe_r (tb := pm_qB) (k := 97) (i := (((3 * x222) + 2) : Int).toNat) (m := 3) (r := 2) (l := [(0, 99, 0), (0, 99, 0), (0, 9, 0)]) rfl rfl (by omega)).trans rfl)
        rw [e266] at b267
        refine pm_iaload (len := 27) (v := y265) hC 97 rfl rfl (by decide) ⟨by omega, by omega⟩ (by decide) e266 dX12_works_189 ?_
        refine pm_aload_n hC 0 (by decide) dX12_works_190 rfl ?_
        refine pm_getf (v := y17) hC 90 fl_X12_317 rfl rfl (by decide) rfl e233 dX12_works_191 ?_
        refine pm_aload_n hC 0 (by decide) dX12_works_194 rfl ?_
        refine pm_iload hC 6 dX12_works_195 rfl ?_
        refine pm_callV (ci := 12) (as := [(0, x222)]) (st := [(0, y17), (0, y265), (0, 0), (0, x222), (3, 110)]) hC 90 (fB_X12_x x222 ⟨by omega, by omega⟩) lm_X12_335 li_X12_x (by decide) (by decide) rfl rfl rfl (by decide) rfl rfl (Nat.le_of_ble_eq_true rfl) ⟨Nat.le_refl _, Or.inl rfl⟩ dX12_works_197 ⟨rfl, hV225⟩ (fun r268 V269 hp270 => ?_)
        obtain ⟨y271, rfl, b272, rfl, hE273⟩ := hp270
        replace hb246 := hb246.trans (pf_call_eq hE273)
        change pm_J X 200 [(0, (3, 90)), (1, (0, a1)), (2, (0, a2)), (3, (0, a3)), (4, (0, (4 * (a1 / 100)))), (5, (0, y35)), (6, (0, x222))] [(0, y271), (0, y17), (0, y265), (0, 0), (0, x222), (3, 110)] 118 V224
        refine pm_aload_n hC 0 (by decide) dX12_works_200 rfl ?_
        refine pm_aload_n hC 0 (by decide) dX12_works_201 rfl ?_
        refine pm_getf (v := ((a1 / 10) % 10)) hC 90 fl_X12_305 rfl rfl (by decide) rfl e231 dX12_works_202 ?_
        refine pm_callV (ci := 12) (as := [(0, ((a1 / 10) % 10))]) (st := [(0, y271), (0, y17), (0, y265), (0, 0), (0, x222), (3, 110)]) hC 90 (fB_X12_x ((a1 / 10) % 10) ⟨by omega, by omega⟩) lm_X12_335 li_X12_x (by decide) (by decide) rfl rfl rfl (by decide) rfl rfl (Nat.le_of_ble_eq_true rfl) ⟨Nat.le_refl _, Or.inl rfl⟩ dX12_works_205 ⟨rfl, hV225⟩ (fun r274 V275 hp276 => ?_)
        obtain ⟨y277, rfl, b278, rfl, hE279⟩ := hp276
        replace hb246 := hb246.trans (pf_call_eq hE279)
        change pm_J X 208 [(0, (3, 90)), (1, (0, a1)), (2, (0, a2)), (3, (0, a3)), (4, (0, (4 * (a1 / 100)))), (5, (0, y35)), (6, (0, x222))] [(0, y277), (0, y271), (0, y17), (0, y265), (0, 0), (0, x222), (3, 110)] 118 V224
        refine pm_isub hC dX12_works_208 ?_
        refine pm_callS (as := [(0, (y271 - y277))]) (st := [(0, y17), (0, y265), (0, 0), (0, x222), (3, 110)]) hC (fB_X12_far (y271 - y277) ⟨by omega, by omega⟩) lm_X12_338 ls_X12_far (by decide) (by decide) rfl rfl (Nat.le_of_ble_eq_true rfl) ⟨Nat.le_refl _, Or.inl rfl⟩ dX12_works_209 ⟨rfl, hV225⟩ (fun r280 V281 hp282 => ?_)
        obtain ⟨y283, rfl, b284, rfl, hE285⟩ := hp282
        replace hb246 := hb246.trans (pf_call_eq hE285)
        change pm_J X 212 [(0, (3, 90)), (1, (0, a1)), (2, (0, a2)), (3, (0, a3)), (4, (0, (4 * (a1 / 100)))), (5, (0, y35)), (6, (0, x222))] [(0, y283), (0, y17), (0, y265), (0, 0), (0, x222), (3, 110)] 118 V224
        refine pm_isub hC dX12_works_212 ?_
        refine pm_aload_n hC 0 (by decide) dX12_works_213 rfl ?_
        refine pm_iload hC 6 dX12_works_214 rfl ?_
        refine pm_callV (ci := 12) (as := [(0, x222)]) (st := [(0, (y17 - y283)), (0, y265), (0, 0), (0, x222), (3, 110)]) hC 90 (fB_X12_y x222 ⟨by omega, by omega⟩) lm_X12_341 li_X12_y (by decide) (by decide) rfl rfl rfl (by decide) rfl rfl (Nat.le_of_ble_eq_true rfl) ⟨Nat.le_refl _, Or.inl rfl⟩ dX12_works_216 ⟨rfl, hV225⟩ (fun r286 V287 hp288 => ?_)
        obtain ⟨y289, rfl, b290, rfl, hE291⟩ := hp288
        replace hb246 := hb246.trans (pf_call_eq hE291)
        change pm_J X 219 [(0, (3, 90)), (1, (0, a1)), (2, (0, a2)), (3, (0, a3)), (4, (0, (4 * (a1 / 100)))), (5, (0, y35)), (6, (0, x222))] [(0, y289), (0, (y17 - y283)), (0, y265), (0, 0), (0, x222), (3, 110)] 118 V224
        refine pm_aload_n hC 0 (by decide) dX12_works_219 rfl ?_
        refine pm_aload_n hC 0 (by decide) dX12_works_220 rfl ?_
        refine pm_getf (v := ((a1 / 10) % 10)) hC 90 fl_X12_305 rfl rfl (by decide) rfl e231 dX12_works_221 ?_
        refine pm_callV (ci := 12) (as := [(0, ((a1 / 10) % 10))]) (st := [(0, y289), (0, (y17 - y283)), (0, y265), (0, 0), (0, x222), (3, 110)]) hC 90 (fB_X12_y ((a1 / 10) % 10) ⟨by omega, by omega⟩) lm_X12_341 li_X12_y (by decide) (by decide) rfl rfl rfl (by decide) rfl rfl (Nat.le_of_ble_eq_true rfl) ⟨Nat.le_refl _, Or.inl rfl⟩ dX12_works_224 ⟨rfl, hV225⟩ (fun r292 V293 hp294 => ?_)
        obtain ⟨y295, rfl, b296, rfl, hE297⟩ := hp294
        replace hb246 := hb246.trans (pf_call_eq hE297)
        change pm_J X 227 [(0, (3, 90)), (1, (0, a1)), (2, (0, a2)), (3, (0, a3)), (4, (0, (4 * (a1 / 100)))), (5, (0, y35)), (6, (0, x222))] [(0, y295), (0, y289), (0, (y17 - y283)), (0, y265), (0, 0), (0, x222), (3, 110)] 118 V224
        refine pm_isub hC dX12_works_227 ?_
        refine pm_callS (as := [(0, (y289 - y295))]) (st := [(0, (y17 - y283)), (0, y265), (0, 0), (0, x222), (3, 110)]) hC (fB_X12_far (y289 - y295) ⟨by omega, by omega⟩) lm_X12_338 ls_X12_far (by decide) (by decide) rfl rfl (Nat.le_of_ble_eq_true rfl) ⟨Nat.le_refl _, Or.inl rfl⟩ dX12_works_228 ⟨rfl, hV225⟩ (fun r298 V299 hp300 => ?_)
        obtain ⟨y301, rfl, b302, rfl, hE303⟩ := hp300
        replace hb246 := hb246.trans (pf_call_eq hE303)
        change pm_J X 231 [(0, (3, 90)), (1, (0, a1)), (2, (0, a2)), (3, (0, a3)), (4, (0, (4 * (a1 / 100)))), (5, (0, y35)), (6, (0, x222))] [(0, y301), (0, (y17 - y283)), (0, y265), (0, 0), (0, x222), (3, 110)] 118 V224
        refine pm_isub hC dX12_works_231 ?_
        refine pm_imul hC dX12_works_232 ?_
        have b305 : (-1773) ≤ (y265 * ((y17 - y283) - y301)) ∧ (y265 * ((y17 - y283) - y301)) ≤ 1539 := pm_mulg (a := 0) (b := 9) (c := (-197)) (d := 171) ⟨by omega, by omega⟩ ⟨by omega, by omega⟩ (by decide) (by decide)
        obtain ⟨y304, hey304⟩ : ∃ z, (y265 * ((y17 - y283) - y301)) = z := ⟨_, rfl⟩
        rw [hey304] at b305 ⊢
        replace hb246 := hb246.trans (pf_let_eq hey304)
        refine pm_mmax hC 7047 4012 1018 4013 ⟨by decide, by decide⟩ ⟨by omega, by omega⟩ (by decide) wL_X12_311 wS_mmax wI_math wC_mmax (Nat.le_of_ble_eq_true rfl) dX12_works_233 (fun y306 b307 => ?_)
        replace b307 : 0 ≤ y306 ∧ y306 ≤ 1539 ∧ 0 ≤ y306 ∧ y304 ≤ y306 := ⟨by omega, by omega, b307.1, b307.2.1⟩
        have hv308 : ((a1 / 10) % 10) = x222 → 1 ≤ y306 := by
          intro hq
          have q1 : V224 97 (3 * x222).toNat = V224 97 (3 * ((a1 / 10) % 10)).toNat := by rw [hq]
          have q2 : V224 97 (3 * x222 + 1).toNat = V224 97 (3 * ((a1 / 10) % 10) + 1).toNat := by rw [hq]
          have hh := hp236 x222 (by omega) (by omega)
          have hfz0 : y283 = 0 := pm_far0 b284 (by omega)
          have hfz1 : y301 = 0 := pm_far0 b302 (by omega)
          have hp : 1 ≤ y265 * ((y17 - y283) - y301) := pm_mul1 (by omega) (by omega)
          omega
        refine pm_iastore (len := 9) hC 110 rfl rfl (by decide) ⟨by omega, by omega⟩ (by decide) dX12_works_236 ?_
        refine pm_aload_n hC 0 (by decide) dX12_works_237 rfl ?_
        have e309 : V224 90 41 = 111 := hV225.one 90 41 (by decide) (by decide) rfl
        refine pm_getf (v := 111) hC 90 fl_X12_73 rfl rfl (by decide) rfl e309 dX12_works_238 ?_
        refine pm_iload hC 6 dX12_works_241 rfl ?_
        refine pm_iconst (v := 0) hC dX12_works_243 ?_
        refine pm_aload_n hC 0 (by decide) dX12_works_244 rfl ?_
        refine pm_getf (v := y30) hC 90 fl_X12_320 rfl rfl (by decide) rfl e234 dX12_works_245 ?_
        refine pm_aload_n hC 0 (by decide) dX12_works_248 rfl ?_
        refine pm_iload hC 6 dX12_works_249 rfl ?_
        refine pm_callV (ci := 12) (as := [(0, x222)]) (st := [(0, y30), (0, 0), (0, x222), (3, 111)]) hC 90 (fB_X12_x x222 ⟨by omega, by omega⟩) lm_X12_335 li_X12_x (by decide) (by decide) rfl rfl rfl (by decide) rfl rfl (Nat.le_of_ble_eq_true rfl) ⟨Nat.le_refl _, Or.inl rfl⟩ dX12_works_251 ⟨rfl, (hV225.put 110 (x222 : Int).toNat (x := y306) (lo := 0) (hi := 1539) rfl ⟨by omega, by omega⟩)⟩ (fun r310 V311 hp312 => ?_)
        obtain ⟨y313, rfl, b314, rfl, hE315⟩ := hp312
        replace hb246 := hb246.trans (pf_call_eq hE315)
        change pm_J X 254 [(0, (3, 90)), (1, (0, a1)), (2, (0, a2)), (3, (0, a3)), (4, (0, (4 * (a1 / 100)))), (5, (0, y35)), (6, (0, x222))] [(0, y313), (0, y30), (0, 0), (0, x222), (3, 111)] 118 (pm_up V224 110 (x222 : Int).toNat y306)
        refine pm_aload_n hC 0 (by decide) dX12_works_254 rfl ?_
        refine pm_aload_n hC 0 (by decide) dX12_works_255 rfl ?_
        refine pm_getf (v := (a1 % 10)) hC 90 fl_X12_308 rfl rfl (by decide) rfl e232 dX12_works_256 ?_
        refine pm_callV (ci := 12) (as := [(0, (a1 % 10))]) (st := [(0, y313), (0, y30), (0, 0), (0, x222), (3, 111)]) hC 90 (fB_X12_x (a1 % 10) ⟨by omega, by omega⟩) lm_X12_335 li_X12_x (by decide) (by decide) rfl rfl rfl (by decide) rfl rfl (Nat.le_of_ble_eq_true rfl) ⟨Nat.le_refl _, Or.inl rfl⟩ dX12_works_259 ⟨rfl, (hV225.put 110 (x222 : Int).toNat (x := y306) (lo := 0) (hi := 1539) rfl ⟨by omega, by omega⟩)⟩ (fun r316 V317 hp318 => ?_)
        obtain ⟨y319, rfl, b320, rfl, hE321⟩ := hp318
        replace hb246 := hb246.trans (pf_call_eq hE321)
        change pm_J X 262 [(0, (3, 90)), (1, (0, a1)), (2, (0, a2)), (3, (0, a3)), (4, (0, (4 * (a1 / 100)))), (5, (0, y35)), (6, (0, x222))] [(0, y319), (0, y313), (0, y30), (0, 0), (0, x222), (3, 111)] 118 (pm_up V224 110 (x222 : Int).toNat y306)
        refine pm_isub hC dX12_works_262 ?_
        refine pm_callS (as := [(0, (y313 - y319))]) (st := [(0, y30), (0, 0), (0, x222), (3, 111)]) hC (fB_X12_far (y313 - y319) ⟨by omega, by omega⟩) lm_X12_338 ls_X12_far (by decide) (by decide) rfl rfl (Nat.le_of_ble_eq_true rfl) ⟨Nat.le_refl _, Or.inl rfl⟩ dX12_works_263 ⟨rfl, (hV225.put 110 (x222 : Int).toNat (x := y306) (lo := 0) (hi := 1539) rfl ⟨by omega, by omega⟩)⟩ (fun r322 V323 hp324 => ?_)
        obtain ⟨y325, rfl, b326, rfl, hE327⟩ := hp324
        replace hb246 := hb246.trans (pf_call_eq hE327)
        change pm_J X 266 [(0, (3, 90)), (1, (0, a1)), (2, (0, a2)), (3, (0, a3)), (4, (0, (4 * (a1 / 100)))), (5, (0, y35)), (6, (0, x222))] [(0, y325), (0, y30), (0, 0), (0, x222), (3, 111)] 118 (pm_up V224 110 (x222 : Int).toNat y306)
        refine pm_isub hC dX12_works_266 ?_
        refine pm_mmax hC 7047 4012 1018 4013 ⟨by decide, by decide⟩ ⟨by omega, by omega⟩ (by decide) wL_X12_311 wS_mmax wI_math wC_mmax (Nat.le_of_ble_eq_true rfl) dX12_works_267 (fun y328 b329 => ?_)
        replace b329 : 0 ≤ y328 ∧ y328 ≤ 171 ∧ 0 ≤ y328 ∧ (y30 - y325) ≤ y328 := ⟨by omega, by omega, b329.1, b329.2.1⟩
        have hv330 : (a1 % 10) = x222 → 1 ≤ y328 := by
          intro hq
          have q1 : (pm_up V224 110 (x222 : Int).toNat y306) 97 (3 * x222).toNat = (pm_up V224 110 (x222 : Int).toNat y306) 97 (3 * (a1 % 10)).toNat := by rw [hq]
          have hfz0 : y325 = 0 := pm_far0 b326 (by omega)
          omega
        refine pm_iastore (len := 9) hC 111 rfl rfl (by decide) ⟨by omega, by omega⟩ (by decide) dX12_works_270 ?_
        refine pm_aload_n hC 0 (by decide) dX12_works_271 rfl ?_
        refine pm_dup hC rfl dX12_works_272 ?_
        refine pm_getf (v := y254) hC 90 fl_X12_326 rfl rfl (by decide) rfl e255 dX12_works_273 ?_
        refine pm_aload_n hC 0 (by decide) dX12_works_276 rfl ?_
        refine pm_getf (v := 110) hC 90 fl_X12_70 rfl rfl (by decide) rfl e263 dX12_works_277 ?_
        refine pm_iload hC 6 dX12_works_280 rfl ?_
        have hV333 := ((hV225.put 110 (x222 : Int).toNat (x := y306) (lo := 0) (hi := 1539) rfl ⟨by omega, by omega⟩).put 111 (x222 : Int).toNat (x := y328) (lo := 0) (hi := 171) rfl ⟨by omega, by omega⟩)
        have hF334 := ((hF226.up 110 (x222 : Int).toNat y306 (by decide) rfl).up 111 (x222 : Int).toNat y328 (by decide) rfl)
        obtain ⟨V331, hv332⟩ : ∃ V, V = (pm_up (pm_up V224 110 (x222 : Int).toNat y306) 111 (x222 : Int).toNat y328) := ⟨_, rfl⟩
        rw [← hv332] at hV333 hF334
        rw [← hv332]
        replace hb246 := hb246.trans (pf_let_eq hv332.symm)
        have e335 : V331 90 16 = y1 := by rw [hv332]; exact e227
        have e336 : V331 90 18 = 98 := by rw [hv332]; exact e228
        have e337 : V331 90 24 = 100 := by rw [hv332]; exact e229
        have e338 : V331 90 20 = y32 := by rw [hv332]; exact e230
        have e339 : V331 90 48 = ((a1 / 10) % 10) := by rw [hv332]; exact e231
        have e340 : V331 90 49 = (a1 % 10) := by rw [hv332]; exact e232
        have e341 : V331 90 42 = y17 := by rw [hv332]; exact e233
        have e342 : V331 90 43 = y30 := by rw [hv332]; exact e234
        have e343 : V331 90 47 = y203 := by rw [hv332]; exact e235
        have e344 : V331 90 44 = y254 := by rw [hv332]; exact e255
        have e345 : V331 90 45 = y257 := by rw [hv332]; exact e258
        have e346 : V331 90 46 = y260 := by rw [hv332]; exact e261
        have e347 : V331 90 40 = 110 := by rw [hv332]; exact e263
        have e348 : V331 90 17 = 97 := by rw [hv332]; exact e264
        have e349 : V331 90 41 = 111 := by rw [hv332]; exact e309
        have hp350 : pm_h1 V331 := by rw [hv332]; exact (pm_h1.fr hp236 rfl rfl)
        obtain ⟨y351, e352⟩ : ∃ y, V331 110 (x222 : Int).toNat = y := ⟨_, rfl⟩
        replace hb246 := hb246.trans (pf_let_eq e352)
        have b353 := hV333.get 110 (x222 : Int).toNat (lo := 0) (hi := 1539) (t := 0) (by decide) (show _ < 9 by omega) rfl
        rw [e352] at b353
        refine pm_iaload (len := 9) (v := y351) hC 110 rfl rfl (by decide) ⟨by omega, by omega⟩ (by decide) e352 dX12_works_282 ?_
        refine pm_i2l hC ⟨by omega, by omega⟩ dX12_works_283 ?_
        refine pm_ladd hC dX12_works_284 ?_
        refine pm_putf hC 90 fl_X12_326 rfl rfl rfl (by decide) rfl trivial dX12_works_285 ?_
        refine pm_aload_n hC 0 (by decide) dX12_works_288 rfl ?_
        refine pm_dup hC rfl dX12_works_289 ?_
        refine pm_getf (v := y257) hC 90 fl_X12_329 rfl rfl (by decide) rfl e345 dX12_works_290 ?_
        refine pm_aload_n hC 0 (by decide) dX12_works_293 rfl ?_
        refine pm_getf (v := 111) hC 90 fl_X12_73 rfl rfl (by decide) rfl e349 dX12_works_294 ?_
        refine pm_iload hC 6 dX12_works_297 rfl ?_
        obtain ⟨y354, e355⟩ : ∃ y, V331 111 (x222 : Int).toNat = y := ⟨_, rfl⟩
        replace hb246 := hb246.trans (pf_let_eq e355)
        have b356 := hV333.get 111 (x222 : Int).toNat (lo := 0) (hi := 171) (t := 0) (by decide) (show _ < 9 by omega) rfl
        rw [e355] at b356
        refine pm_iaload (len := 9) (v := y354) hC 111 rfl rfl (by decide) ⟨by omega, by omega⟩ (by decide) e355 dX12_works_299 ?_
        refine pm_i2l hC ⟨by omega, by omega⟩ dX12_works_300 ?_
        refine pm_ladd hC dX12_works_301 ?_
        refine pm_putf hC 90 fl_X12_329 rfl rfl rfl (by decide) rfl trivial dX12_works_302 ?_
        refine pm_aload_n hC 0 (by decide) dX12_works_305 rfl ?_
        refine pm_dup hC rfl dX12_works_306 ?_
        refine pm_getf (v := y260) hC 90 fl_X12_332 rfl rfl (by decide) rfl e346 dX12_works_307 ?_
        refine pm_aload_n hC 0 (by decide) dX12_works_310 rfl ?_
        refine pm_getf (v := 110) hC 90 fl_X12_70 rfl rfl (by decide) rfl e347 dX12_works_311 ?_
        refine pm_iload hC 6 dX12_works_314 rfl ?_
        refine pm_iaload (len := 9) (v := y351) hC 110 rfl rfl (by decide) ⟨by omega, by omega⟩ (by decide) e352 dX12_works_316 ?_
        refine pm_i2l hC ⟨by omega, by omega⟩ dX12_works_317 ?_
        refine pm_aload_n hC 0 (by decide) dX12_works_318 rfl ?_
        refine pm_getf (v := 111) hC 90 fl_X12_73 rfl rfl (by decide) rfl e349 dX12_works_319 ?_
        refine pm_iload hC 6 dX12_works_322 rfl ?_
        refine pm_iaload (len := 9) (v := y354) hC 111 rfl rfl (by decide) ⟨by omega, by omega⟩ (by decide) e355 dX12_works_324 ?_
        refine pm_i2l hC ⟨by omega, by omega⟩ dX12_works_325 ?_
        refine pm_lmul hC dX12_works_326 ?_
        have b358 : 0 ≤ (y351 * y354) ∧ (y351 * y354) ≤ 263169 := pm_mulb (by omega) (by omega) (show y351 ≤ 1539 by omega) (show y354 ≤ 171 by omega) (by decide)
        obtain ⟨y357, hey357⟩ : ∃ z, (y351 * y354) = z := ⟨_, rfl⟩
        rw [hey357] at b358 ⊢
        replace hb246 := hb246.trans (pf_let_eq hey357)
        refine pm_ladd hC dX12_works_327 ?_
        refine pm_putf hC 90 fl_X12_332 rfl rfl rfl (by decide) rfl trivial dX12_works_328 ?_
        obtain ⟨x359, ei360⟩ : ∃ y : Int, x222 + 1 = y := ⟨_, rfl⟩
        replace hb246 := hb246.trans (pf_let_eq ei360)
        refine pm_iinc (y := x359) (lv' := [(6, (0, x359)), (0, (3, 90)), (1, (0, a1)), (2, (0, a2)), (3, (0, a3)), (4, (0, (4 * (a1 / 100)))), (5, (0, y35))]) hC 6 dX12_works_331 (by decide) rfl ei360 rfl ?_
        refine pm_goto (tgt := 163) hC dX12_works_334 (by decide) ?_
        refine pm_lvsub [1, 2, 3, 4, 5, 6, 0] (lv' := [(0, (3, 90)), (1, (0, a1)), (2, (0, a2)), (3, (0, a3)), (4, (0, (4 * (a1 / 100)))), (5, (0, y35)), (6, (0, x359))]) rfl ?_
        exact ih250 _ (by omega) x359 (pm_up (pm_up (pm_up V331 90 44 (y254 + y351)) 90 45 (y257 + y354)) 90 46 (y260 + y357)) ⟨by omega, by omega⟩ (((hV333.put 90 44 (x := (y254 + y351)) (lo := 0) (hi := 13851) rfl ⟨by omega, by omega⟩).put 90 45 (x := (y257 + y354)) (lo := 0) (hi := 1539) rfl ⟨by omega, by omega⟩).put 90 46 (x := (y260 + y357)) (lo := 0) (hi := 2368521) rfl ⟨by omega, by omega⟩) (((hF334.upf 44 (y254 + y351) rfl).upf 45 (y257 + y354) rfl).upf 46 (y260 + y357) rfl) e335 e336 e337 e338 e339 e340 e341 e342 e343 (pm_h1.fr hp350 rfl rfl) (show (y254 + y351) ≤ 1539 * x359 by omega) (show (y257 + y354) ≤ 171 * x359 by omega) (show (y260 + y357) ≤ 263169 * x359 by omega) (fun h => by show 1 ≤ V331 110 (((a1 / 10) % 10)).toNat; rw [hv332]; exact pm_up_get (V := V224) (k := 110) (i := x222) (a := ((a1 / 10) % 10)) (x := y306) (p := fun z => 1 ≤ z) (by omega) (by omega) hv308 (fun hne => hx240 (by omega))) (fun h => by show 1 ≤ V331 111 ((a1 % 10)).toNat; rw [hv332]; exact pm_up_get (V := V224) (k := 111) (i := x222) (a := (a1 % 10)) (x := y328) (p := fun z => 1 ≤ z) (by omega) (by omega) hv330 (fun hne => hx241 (by omega))) (fun h => by have h9 : 1 ≤ (y260 + y357) := h; (by_cases hy : 1 ≤ y357); (have hm : y351 * y354 = y357 := hey357; obtain ⟨m1, m2⟩ := pm_mulpos (x := y351) (y := y354) (by omega) (by omega) (by rw [hm]; exact hy); exact ⟨((x222) : Int).toNat, by omega, by (show 1 ≤ V331 110 ((x222) : Int).toNat; rw [e352]; exact m1), by (show 1 ≤ V331 111 ((x222) : Int).toNat; rw [e355]; exact m2)⟩); (obtain ⟨q, q1, q2, q3⟩ := hx242 (by (have h46 : V224 90 46 = V331 90 46 := by rw [hv332]; rfl); rw [h46, e346]; omega); exact ⟨q, by omega, by (show 1 ≤ V331 110 q; rw [hv332, pm_up_c (by decide), pm_up_i (by omega)]; exact q2), by (show 1 ≤ V331 111 q; rw [hv332, pm_up_i (by omega), pm_up_c (by decide)]; exact q3)⟩)) (by show x359 ≤ V331 90 16; rw [e335]; omega) (hT.trans (pf_val_inl hb246)) rfl
    refine pm_lvsub [3, 4, 5, 6, 2, 1, 0] (lv' := [(0, (3, 90)), (1, (0, a1)), (2, (0, a2)), (3, (0, a3)), (4, (0, (4 * (a1 / 100)))), (5, (0, y35)), (6, (0, 0))]) rfl ?_
    exact L247 _ 0 V205 ⟨by decide, by decide⟩ hV207 hF208 e209 e210 e211 e212 e213 e214 e215 e216 e217 hp221 (by (have e : V205 90 44 = 0 := e218); rw [e]; omega) (by (have e : V205 90 45 = 0 := e219); rw [e]; omega) (by (have e : V205 90 46 = 0 := e220); rw [e]; omega) (fun h => absurd h (by omega)) (fun h => absurd h (by omega)) (fun h => absurd h (by rw [e220]; decide)) (by rw [e209]; omega) hT rfl
set_option maxHeartbeats 4000000 in
set_option maxRecDepth 100000 in
theorem fB_X12_worksAnswer (a1 : Int) (h0 : 0 ≤ a1 ∧ a1 ≤ 59) : pm_K 3 yX12_worksAnswer cX12_worksAnswer 2 none (fun av V => av = [(3, 90), (0, a1)] ∧ pm_oq pm_qB V ∧ (a1 < V 90 25) ∧ pm_h1 V ∧ pm_h3 V) (fun _ V r V' => r = none ∧ pm_oq pm_qB V' ∧ pm_fs [110, 111] [42, 43, 44, 45, 46, 47, 48, 49] V V' ∧ (1 ≤ V' 90 42 ∧ V' 90 42 ≤ 171) ∧ (1 ≤ V' 90 43 ∧ V' 90 43 ≤ 171) ∧ pm_w1 V' ∧ pm_w3 V' ∧ F_X12_worksAnswer a1 V = (0, V')) := by
  refine pm_MT.of (by decide) ⟨Nat.le_refl _, by decide⟩ (fun av V h => by rw [h.1]; exact (by decide : pm_words [(3, 0), (0, 0)] ≤ 2)) ?_
  rintro X av V0 hC - hR ⟨rfl, hV0, hmp0, hn_pm_h1, hn_pm_h3⟩
  change pm_J X 0 [(0, (3, 90)), (1, (0, a1))] [] 118 V0
  have hT := F_X12_worksAnswer_eq a1 V0
  obtain ⟨y1, e2⟩ : ∃ y, V0 90 25 = y := ⟨_, rfl⟩
  have b3 := hV0.get 90 25 (lo := 0) (hi := 60) (by decide) (by decide) rfl
  rw [e2] at b3
  replace hT := hT.trans (pf_let_eq e2)
  have hh3 := hn_pm_h3 a1 (by omega) (by omega)
  refine pm_aload_n hC 0 (by decide) dX12_worksAnswer_0 rfl ?_
  refine pm_aload_n hC 0 (by decide) dX12_worksAnswer_1 rfl ?_
  have e4 : V0 90 26 = 101 := hV0.one 90 26 (by decide) (by decide) rfl
  refine pm_getf (v := 101) hC 90 fl_X12_43 rfl rfl (by decide) rfl e4 dX12_worksAnswer_2 ?_
  refine pm_iconst (v := 5) hC dX12_worksAnswer_5 ?_
  refine pm_iload_n hC 1 dX12_worksAnswer_6 rfl ?_
  refine pm_imul hC dX12_worksAnswer_7 ?_
  obtain ⟨y5, e6⟩ : ∃ y, V0 101 ((5 * a1) : Int).toNat = y := ⟨_, rfl⟩
  replace hT := hT.trans (pf_let_eq e6)
  have b7 := hV0.get1 101 ((5 * a1) : Int).toNat (lo := 0) (hi := 999) (by decide) (show _ < 300 by omega) ((pm_qe_r (tb := pm_qB) (k := 101) (i := ((5 * a1) : Int).toNat) (m := 5) (r := 0) (l := [(0, 999, 1), (0, 99, 0), (-99, 99, 0), (0, 8, 0), (0, 1, 0)]) rfl rfl (by omega)).trans rfl)
  rw [e6] at b7
  refine pm_iaload (len := 300) (v := y5) hC 101 rfl rfl (by decide) ⟨by omega, by omega⟩ (by decide) e6 dX12_worksAnswer_8 ?_
  refine pm_aload_n hC 0 (by decide) dX12_worksAnswer_9 rfl ?_
  refine pm_getf (v := 101) hC 90 fl_X12_43 rfl rfl (by decide) rfl e4 dX12_worksAnswer_10 ?_
  refine pm_iconst (v := 5) hC dX12_worksAnswer_13 ?_
  refine pm_iload_n hC 1 dX12_worksAnswer_14 rfl ?_
  refine pm_imul hC dX12_worksAnswer_15 ?_
  refine pm_iconst (v := 1) hC dX12_worksAnswer_16 ?_
  refine pm_iadd hC dX12_worksAnswer_17 ?_
  obtain ⟨y8, e9⟩ : ∃ y, V0 101 (((5 * a1) + 1) : Int).toNat = y := ⟨_, rfl⟩
  replace hT := hT.trans (pf_let_eq e9)
  have b10 := hV0.get 101 (((5 * a1) + 1) : Int).toNat (lo := 0) (hi := 99) (t := 0) (by decide) (show _ < 300 by omega) ((pm_qe_r (tb := pm_qB) (k := 101) (i := (((5 * a1) + 1) : Int).toNat) (m := 5) (r := 1) (l := [(0, 999, 1), (0, 99, 0), (-99, 99, 0), (0, 8, 0), (0, 1, 0)]) rfl rfl (by omega)).trans rfl)
  rw [e9] at b10
  refine pm_iaload (len := 300) (v := y8) hC 101 rfl rfl (by decide) ⟨by omega, by omega⟩ (by decide) e9 dX12_worksAnswer_18 ?_
  refine pm_aload_n hC 0 (by decide) dX12_worksAnswer_19 rfl ?_
  refine pm_getf (v := 101) hC 90 fl_X12_43 rfl rfl (by decide) rfl e4 dX12_worksAnswer_20 ?_
  refine pm_iconst (v := 5) hC dX12_worksAnswer_23 ?_
  refine pm_iload_n hC 1 dX12_worksAnswer_24 rfl ?_
  refine pm_imul hC dX12_worksAnswer_25 ?_
  refine pm_iconst (v := 2) hC dX12_worksAnswer_26 ?_
  refine pm_iadd hC dX12_worksAnswer_27 ?_
  obtain ⟨y11, e12⟩ : ∃ y, V0 101 (((5 * a1) + 2) : Int).toNat = y := ⟨_, rfl⟩
  replace hT := hT.trans (pf_let_eq e12)
  have b13 := hV0.get 101 (((5 * a1) + 2) : Int).toNat (lo := (-99)) (hi := 99) (t := 0) (by decide) (show _ < 300 by omega) ((pm_qe_r (tb := pm_qB) (k := 101) (i := (((5 * a1) + 2) : Int).toNat) (m := 5) (r := 2) (l := [(0, 999, 1), (0, 99, 0), (-99, 99, 0), (0, 8, 0), (0, 1, 0)]) rfl rfl (by omega)).trans rfl)
  rw [e12] at b13
  refine pm_iaload (len := 300) (v := y11) hC 101 rfl rfl (by decide) ⟨by omega, by omega⟩ (by decide) e12 dX12_worksAnswer_28 ?_
  refine pm_callV (ci := 12) (as := [(0, y5), (0, y8), (0, y11)]) (st := []) hC 90 (fB_X12_works y5 y8 y11 ⟨by omega, by omega⟩ ⟨by omega, by omega⟩ ⟨by omega, by omega⟩ (by omega)) lm_X12_376 li_X12_works (by decide) (by decide) rfl rfl rfl (by decide) rfl rfl (Nat.le_of_ble_eq_true rfl) ⟨Nat.le_refl _, Or.inl rfl⟩ dX12_worksAnswer_29 ⟨rfl, hV0, (show (y5) % 10 < V0 90 16 by omega), (show (y5) / 10 % 10 < V0 90 16 by omega), hn_pm_h1⟩ (fun r14 V15 hp16 => ?_)
  obtain ⟨rfl, hV17, hF18, hq19, hq20, hg21, hg22, hE23⟩ := hp16
  replace hT := hT.trans (pf_call_eq hE23)
  change pm_J X 32 [(0, (3, 90)), (1, (0, a1))] [] 118 V15
  have hF24 := pm_fs.tr (pm_fs.rf (cs := [110, 111]) (fs := [42, 43, 44, 45, 46, 47, 48, 49]) (V := V0)) hF18 (by decide) (by decide)
  have e25 : V15 90 25 = y1 := by rw [hF18.2 25 (by decide)]; exact e2
  have e26 : V15 90 26 = 101 := by rw [hF18.2 26 (by decide)]; exact e4
  have hp27 : pm_h1 V15 := (pm_h1.fr hn_pm_h1 (hF18.2 16 (by decide)) (hF18.1 97 (by decide) (by decide)))
  have hp28 : pm_h3 V15 := (pm_h3.fr hn_pm_h3 (hF18.2 16 (by decide)) (hF18.2 25 (by decide)) (hF18.1 101 (by decide) (by decide)))
  obtain ⟨z29, ez30⟩ : ∃ z, V15 90 42 = z := ⟨_, rfl⟩
  rw [ez30] at hq19
  replace hT := hT.trans (pf_let_eq ez30)
  obtain ⟨z31, ez32⟩ : ∃ z, V15 90 43 = z := ⟨_, rfl⟩
  rw [ez32] at hq20
  replace hT := hT.trans (pf_let_eq ez32)
  have q33 : 1 ≤ V15 90 42 ∧ V15 90 42 ≤ 171 := by (have e : V15 90 42 = z29 := ez30); rw [e]; exact ⟨by omega, by omega⟩
  have q34 : 1 ≤ V15 90 43 ∧ V15 90 43 ≤ 171 := by (have e : V15 90 43 = z31 := ez32); rw [e]; exact ⟨by omega, by omega⟩
  exact pm_vret hC hR ⟨rfl, hV17, hF24, q33, q34, hg21, hg22, hT⟩ dX12_worksAnswer_32
