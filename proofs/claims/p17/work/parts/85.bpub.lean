noncomputable def F_X12_weighsIf (a1 a2 a3 a4 : Int) (V0 : pm_M) : Int × pm_M := pf_call (F_X12_isLaw a1 V0) fun y4 _ => (if y4 = 0 then ((0, V0)) else (pf_call (F_X12_isTrial a2 a3 a4 V0) fun y11 _ => (if ¬ (y11 = 0) then (pf_call (F_X12_works a2 a3 a4 V0) fun _ V16 => pf_let (V16 90 42) fun z28 => pf_let (V16 90 43) fun z30 => pf_call (F_X12_weighs a1 V16) fun _ V33 => (1, V33)) else ((0, V0)))))
theorem F_X12_weighsIf_eq (a1 a2 a3 a4 : Int) (V0 : pm_M) : F_X12_weighsIf a1 a2 a3 a4 V0 = pf_call (F_X12_isLaw a1 V0) fun y4 _ => (if y4 = 0 then ((0, V0)) else (pf_call (F_X12_isTrial a2 a3 a4 V0) fun y11 _ => (if ¬ (y11 = 0) then (pf_call (F_X12_works a2 a3 a4 V0) fun _ V16 => pf_let (V16 90 42) fun z28 => pf_let (V16 90 43) fun z30 => pf_call (F_X12_weighs a1 V16) fun _ V33 => (1, V33)) else ((0, V0))))) := rfl
noncomputable def F_X12_weight (a1 a2 a3 a4 a5 : Int) (V0 : pm_M) : Int × pm_M := pf_call (F_X12_weighsIf a1 a2 a3 a4 V0) fun y4 V2 => (if y4 = 0 then (((-1), V2)) else ((if a5 = (-1) then ((if ¬ (a5 = (-1)) then (((0 : Int), V0)) else (pf_let (V2 90 51) fun y17 => (y17, V2)))) else (pf_let (V2 90 16) fun y20 => pf_call (F_X12_in a5 0 (y20 - 1) V2) fun y26 _ => (if ¬ (y26 = 0) then ((if ¬ (a5 = (-1)) then (pf_let (V2 112 (a5 : Int).toNat) fun y32 => (y32, V2)) else (((0 : Int), V0)))) else (((-1), V2)))))))
theorem F_X12_weight_eq (a1 a2 a3 a4 a5 : Int) (V0 : pm_M) : F_X12_weight a1 a2 a3 a4 a5 V0 = pf_call (F_X12_weighsIf a1 a2 a3 a4 V0) fun y4 V2 => (if y4 = 0 then (((-1), V2)) else ((if a5 = (-1) then ((if ¬ (a5 = (-1)) then (((0 : Int), V0)) else (pf_let (V2 90 51) fun y17 => (y17, V2)))) else (pf_let (V2 90 16) fun y20 => pf_call (F_X12_in a5 0 (y20 - 1) V2) fun y26 _ => (if ¬ (y26 = 0) then ((if ¬ (a5 = (-1)) then (pf_let (V2 112 (a5 : Int).toNat) fun y32 => (y32, V2)) else (((0 : Int), V0)))) else (((-1), V2))))))) := rfl
noncomputable def F_X12_chance (a1 a2 a3 a4 a5 : Int) (V0 : pm_M) : Int × pm_M := pf_call (F_X12_weighsIf a1 a2 a3 a4 V0) fun y4 V2 => (if y4 = 0 then (((-1), V2)) else (pf_let (V2 90 16) fun y15 => pf_call (F_X12_in a5 0 (y15 - 1) V2) fun y21 _ => (if y21 = 0 then (((-1), V2)) else (pf_call (F_X12_chanceOf a5 V2) fun y28 _ => (y28, V2)))))
theorem F_X12_chance_eq (a1 a2 a3 a4 a5 : Int) (V0 : pm_M) : F_X12_chance a1 a2 a3 a4 a5 V0 = pf_call (F_X12_weighsIf a1 a2 a3 a4 V0) fun y4 V2 => (if y4 = 0 then (((-1), V2)) else (pf_let (V2 90 16) fun y15 => pf_call (F_X12_in a5 0 (y15 - 1) V2) fun y21 _ => (if y21 = 0 then (((-1), V2)) else (pf_call (F_X12_chanceOf a5 V2) fun y28 _ => (y28, V2))))) := rfl
noncomputable def F_X12_kind (a1 a2 a3 a4 a5 : Int) (V0 : pm_M) : Int × pm_M := pf_call (F_X12_weighsIf a1 a2 a3 a4 V0) fun y4 V2 => (if y4 = 0 then (((-1), V2)) else (pf_call (F_X12_in a5 0 3 V2) fun y18 _ => (if y18 = 0 then (((-1), V2)) else (pf_call (F_X12_chanceOfKind a5 V2) fun y25 _ => (y25, V2)))))
theorem F_X12_kind_eq (a1 a2 a3 a4 a5 : Int) (V0 : pm_M) : F_X12_kind a1 a2 a3 a4 a5 V0 = pf_call (F_X12_weighsIf a1 a2 a3 a4 V0) fun y4 V2 => (if y4 = 0 then (((-1), V2)) else (pf_call (F_X12_in a5 0 3 V2) fun y18 _ => (if y18 = 0 then (((-1), V2)) else (pf_call (F_X12_chanceOfKind a5 V2) fun y25 _ => (y25, V2))))) := rfl
noncomputable def F_X12_likely (a1 a2 a3 a4 : Int) (V0 : pm_M) : Int × pm_M := pf_call (F_X12_weighsIf a1 a2 a3 a4 V0) fun y4 V2 => (if y4 = 0 then (((-1), V2)) else (pf_call (F_X12_likeliest  V2) fun y18 _ => (y18, V2)))
theorem F_X12_likely_eq (a1 a2 a3 a4 : Int) (V0 : pm_M) : F_X12_likely a1 a2 a3 a4 V0 = pf_call (F_X12_weighsIf a1 a2 a3 a4 V0) fun y4 V2 => (if y4 = 0 then (((-1), V2)) else (pf_call (F_X12_likeliest  V2) fun y18 _ => (y18, V2))) := rfl
noncomputable def F_X12_noticed (a1 a2 a3 : Int) (V0 : pm_M) : Int × pm_M := pf_call (F_X12_weighsIf 4 a1 a2 a3 V0) fun y4 V2 => (if y4 = 0 then (((-1), V2)) else (pf_call (F_X12_noticedNow  V2) fun y18 _ => (y18, V2)))
theorem F_X12_noticed_eq (a1 a2 a3 : Int) (V0 : pm_M) : F_X12_noticed a1 a2 a3 V0 = pf_call (F_X12_weighsIf 4 a1 a2 a3 V0) fun y4 V2 => (if y4 = 0 then (((-1), V2)) else (pf_call (F_X12_noticedNow  V2) fun y18 _ => (y18, V2))) := rfl
set_option maxHeartbeats 4000000 in
set_option maxRecDepth 100000 in
theorem fB_X12_weighsIf (a1 a2 a3 a4 : Int) (h0 : (-2147483648) ≤ a1 ∧ a1 ≤ 2147483647) (h1 : (-2147483648) ≤ a2 ∧ a2 ≤ 2147483647) (h2 : (-2147483648) ≤ a3 ∧ a3 ≤ 2147483647) (h3 : (-2147483648) ≤ a4 ∧ a4 ≤ 2147483647) : pm_K 4 yX12_weighsIf cX12_weighsIf 5 (some .boolean) (fun av V => av = [(3, 90), (0, a1), (0, a2), (0, a3), (0, a4)] ∧ pm_oq pm_qB V ∧ pm_h1 V ∧ pm_h2 V) (fun _ V r V' => ∃ y, r = some (0, y) ∧ (0 ≤ y ∧ y ≤ 1 ∧ (y = 1 → (0 ≤ a1 ∧ a1 ≤ 6 ∧ 0 ≤ a2 ∧ a2 ≤ 999 ∧ 0 ≤ a3 ∧ a3 ≤ 99 ∧ (-99) ≤ a4 ∧ a4 ≤ 99))) ∧ pm_oq pm_qB V' ∧ pm_fs [110, 111, 112] [42, 43, 44, 45, 46, 47, 48, 49, 51] V V' ∧ (y = 1 → pm_w1 V' ∧ pm_w2 V' ∧ pm_w3 V') ∧ (y = 1 → 1 ≤ V' 90 42 ∧ 1 ≤ V' 90 43) ∧ F_X12_weighsIf a1 a2 a3 a4 V = (y, V')) := by
  refine pm_MT.of (by decide) ⟨Nat.le_refl _, by decide⟩ (fun av V h => by rw [h.1]; exact (by decide : pm_words [(3, 0), (0, 0), (0, 0), (0, 0), (0, 0)] ≤ 5)) ?_
  rintro X av V0 hC - hR ⟨rfl, hV0, hn_pm_h1, hn_pm_h2⟩
  change pm_J X 0 [(0, (3, 90)), (1, (0, a1)), (2, (0, a2)), (3, (0, a3)), (4, (0, a4))] [] 118 V0
  have hT := F_X12_weighsIf_eq a1 a2 a3 a4 V0
  refine pm_iload_n hC 1 dX12_weighsIf_0 rfl ?_
  refine pm_callS (as := [(0, a1)]) (st := []) hC (fB_X12_isLaw a1 ⟨by omega, by omega⟩) lm_X12_370 ls_X12_isLaw (by decide) (by decide) rfl rfl (Nat.le_of_ble_eq_true rfl) ⟨Nat.le_refl _, Or.inl rfl⟩ dX12_weighsIf_1 ⟨rfl, hV0⟩ (fun r1 V2 hp3 => ?_)
  obtain ⟨y4, rfl, b5, rfl, hE6⟩ := hp3
  replace hT := hT.trans (pf_call_eq hE6)
  change pm_J X 4 [(0, (3, 90)), (1, (0, a1)), (2, (0, a2)), (3, (0, a3)), (4, (0, a4))] [(0, y4)] 118 V0
  refine pm_if_eq (tgt := 18) hC ⟨by omega, by omega⟩ dX12_weighsIf_4 (by decide) (fun c7 => ?_) (fun c7 => ?_)
  · skip
    replace hT := hT.trans (if_pos c7)
    refine pm_iconst (v := 0) hC dX12_weighsIf_18 ?_
    exact pm_iret hC hR (pm_narZ (by omega)) ⟨0, rfl, ⟨by omega, by omega, by omega⟩, hV0, (pm_fs.rf (cs := [110, 111, 112]) (fs := [42, 43, 44, 45, 46, 47, 48, 49, 51]) (V := V0)), (fun q => absurd q (by decide)), (fun q => absurd q (by decide)), hT⟩ dX12_weighsIf_19
  · skip
    replace hT := hT.trans (if_neg c7)
    refine pm_aload_n hC 0 (by decide) dX12_weighsIf_7 rfl ?_
    refine pm_iload_n hC 2 dX12_weighsIf_8 rfl ?_
    refine pm_iload_n hC 3 dX12_weighsIf_9 rfl ?_
    refine pm_iload hC 4 dX12_weighsIf_10 rfl ?_
    refine pm_callV (ci := 12) (as := [(0, a2), (0, a3), (0, a4)]) (st := []) hC 90 (fB_X12_isTrial a2 a3 a4 ⟨by omega, by omega⟩ ⟨by omega, by omega⟩ ⟨by omega, by omega⟩) lm_X12_373 li_X12_isTrial (by decide) (by decide) rfl rfl rfl (by decide) rfl rfl (Nat.le_of_ble_eq_true rfl) ⟨Nat.le_refl _, Or.inl rfl⟩ dX12_weighsIf_12 ⟨rfl, hV0⟩ (fun r8 V9 hp10 => ?_)
    obtain ⟨y11, rfl, b12, rfl, hE13⟩ := hp10
    replace hT := hT.trans (pf_call_eq hE13)
    change pm_J X 15 [(0, (3, 90)), (1, (0, a1)), (2, (0, a2)), (3, (0, a3)), (4, (0, a4))] [(0, y11)] 118 V0
    refine pm_if_ne (tgt := 20) hC ⟨by omega, by omega⟩ dX12_weighsIf_15 (by decide) (fun c14 => ?_) (fun c14 => ?_)
    · skip
      replace hT := hT.trans (if_pos c14)
      refine pm_aload_n hC 0 (by decide) dX12_weighsIf_20 rfl ?_
      refine pm_iload_n hC 2 dX12_weighsIf_21 rfl ?_
      refine pm_iload_n hC 3 dX12_weighsIf_22 rfl ?_
      refine pm_iload hC 4 dX12_weighsIf_23 rfl ?_
      refine pm_callV (ci := 12) (as := [(0, a2), (0, a3), (0, a4)]) (st := []) hC 90 (fB_X12_works a2 a3 a4 ⟨by omega, by omega⟩ ⟨by omega, by omega⟩ ⟨by omega, by omega⟩ (by omega)) lm_X12_376 li_X12_works (by decide) (by decide) rfl rfl rfl (by decide) rfl rfl (Nat.le_of_ble_eq_true rfl) ⟨Nat.le_refl _, Or.inl rfl⟩ dX12_weighsIf_25 ⟨rfl, hV0, (show (a2) % 10 < V0 90 16 by omega), (show (a2) / 10 % 10 < V0 90 16 by omega), hn_pm_h1⟩ (fun r15 V16 hp17 => ?_)
      obtain ⟨rfl, hV18, hF19, hq20, hq21, hg22, hg23, hE24⟩ := hp17
      replace hT := hT.trans (pf_call_eq hE24)
      change pm_J X 28 [(0, (3, 90)), (1, (0, a1)), (2, (0, a2)), (3, (0, a3)), (4, (0, a4))] [] 118 V16
      have hF25 := pm_fs.tr (pm_fs.rf (cs := [110, 111, 112]) (fs := [42, 43, 44, 45, 46, 47, 48, 49, 51]) (V := V0)) hF19 (by decide) (by decide)
      have hp26 : pm_h1 V16 := (pm_h1.fr hn_pm_h1 (hF19.2 16 (by decide)) (hF19.1 97 (by decide) (by decide)))
      have hp27 : pm_h2 V16 := (pm_h2.fr hn_pm_h2 (hF19.2 16 (by decide)) (hF19.2 21 (by decide)) (hF19.1 99 (by decide) (by decide)))
      obtain ⟨z28, ez29⟩ : ∃ z, V16 90 42 = z := ⟨_, rfl⟩
      rw [ez29] at hq20
      replace hT := hT.trans (pf_let_eq ez29)
      obtain ⟨z30, ez31⟩ : ∃ z, V16 90 43 = z := ⟨_, rfl⟩
      rw [ez31] at hq21
      replace hT := hT.trans (pf_let_eq ez31)
      refine pm_aload_n hC 0 (by decide) dX12_weighsIf_28 rfl ?_
      refine pm_iload_n hC 1 dX12_weighsIf_29 rfl ?_
      have q35 : 1 ≤ V16 90 42 ∧ V16 90 42 ≤ 171 := by (have e : V16 90 42 = z28 := ez29); rw [e]; exact ⟨by omega, by omega⟩
      have q36 : 1 ≤ V16 90 43 ∧ V16 90 43 ≤ 171 := by (have e : V16 90 43 = z30 := ez31); rw [e]; exact ⟨by omega, by omega⟩
      refine pm_callV (ci := 12) (as := [(0, a1)]) (st := []) hC 90 (fB_X12_weighs a1 ⟨by omega, by omega⟩) lm_X12_380 li_X12_weighs (by decide) (by decide) rfl rfl rfl (by decide) rfl rfl (Nat.le_of_ble_eq_true rfl) ⟨Nat.le_refl _, Or.inl rfl⟩ dX12_weighsIf_30 ⟨rfl, hV18, q35, q36, hg22, hp26, hp27, hg23⟩ (fun r32 V33 hp34 => ?_)
      obtain ⟨rfl, hV37, hF38, hg39, hE40⟩ := hp34
      replace hT := hT.trans (pf_call_eq hE40)
      change pm_J X 33 [(0, (3, 90)), (1, (0, a1)), (2, (0, a2)), (3, (0, a3)), (4, (0, a4))] [] 118 V33
      have hF41 := pm_fs.tr hF25 hF38 (by decide) (by decide)
      have e42 : V33 90 42 = z28 := by rw [hF38.2 42 (by decide)]; exact ez29
      have e43 : V33 90 43 = z30 := by rw [hF38.2 43 (by decide)]; exact ez31
      have hp44 : pm_h1 V33 := (pm_h1.fr hp26 (hF38.2 16 (by decide)) (hF38.1 97 (by decide) (by decide)))
      have hp45 : pm_h2 V33 := (pm_h2.fr hp27 (hF38.2 16 (by decide)) (hF38.2 21 (by decide)) (hF38.1 99 (by decide) (by decide)))
      have hp46 : pm_w1 V33 := (pm_w1.fr hg22 (hF38.2 16 (by decide)) (hF38.2 48 (by decide)) (hF38.2 49 (by decide)) (hF38.1 110 (by decide) (by decide)) (hF38.1 111 (by decide) (by decide)))
      have hp47 : pm_w3 V33 := (pm_w3.fr hg23 (hF38.2 16 (by decide)) (hF38.2 46 (by decide)) (hF38.1 110 (by decide) (by decide)) (hF38.1 111 (by decide) (by decide)))
      refine pm_iconst (v := 1) hC dX12_weighsIf_33 ?_
      exact pm_iret hC hR (pm_narZ (by omega)) ⟨1, rfl, ⟨by omega, by omega, by omega⟩, hV37, hF41, (fun _ => ⟨hp46, hg39, hp47⟩), (fun _ => by rw [(show V33 90 42 = z28 from e42), (show V33 90 43 = z30 from e43)]; exact ⟨by omega, by omega⟩), hT⟩ dX12_weighsIf_34
    · skip
      replace hT := hT.trans (if_neg (fun q => q c14))
      refine pm_iconst (v := 0) hC dX12_weighsIf_18 ?_
      exact pm_iret hC hR (pm_narZ (by omega)) ⟨0, rfl, ⟨by omega, by omega, by omega⟩, hV0, (pm_fs.rf (cs := [110, 111, 112]) (fs := [42, 43, 44, 45, 46, 47, 48, 49, 51]) (V := V0)), (fun q => absurd q (by decide)), (fun q => absurd q (by decide)), hT⟩ dX12_weighsIf_19
set_option maxHeartbeats 4000000 in
set_option maxRecDepth 100000 in
theorem fB_X12_weight (a1 a2 a3 a4 a5 : Int) (h0 : (-2147483648) ≤ a1 ∧ a1 ≤ 2147483647) (h1 : (-2147483648) ≤ a2 ∧ a2 ≤ 2147483647) (h2 : (-2147483648) ≤ a3 ∧ a3 ≤ 2147483647) (h3 : (-2147483648) ≤ a4 ∧ a4 ≤ 2147483647) (h4 : (-2147483648) ≤ a5 ∧ a5 ≤ 2147483647) : pm_K 5 yX12_weight cX12_weight 6 (some .int) (fun av V => av = [(3, 90), (0, a1), (0, a2), (0, a3), (0, a4), (0, a5)] ∧ pm_oq pm_qB V ∧ pm_h1 V ∧ pm_h2 V) (fun _ V r V' => ∃ y, r = some (0, y) ∧ ((-1) ≤ y ∧ y ≤ 720000000) ∧ pm_oq pm_qB V' ∧ pm_fs [110, 111, 112] [42, 43, 44, 45, 46, 47, 48, 49, 51] V V' ∧ F_X12_weight a1 a2 a3 a4 a5 V = (y, V')) := by
  refine pm_MT.of (by decide) ⟨Nat.le_refl _, by decide⟩ (fun av V h => by rw [h.1]; exact (by decide : pm_words [(3, 0), (0, 0), (0, 0), (0, 0), (0, 0), (0, 0)] ≤ 6)) ?_
  rintro X av V0 hC - hR ⟨rfl, hV0, hn_pm_h1, hn_pm_h2⟩
  change pm_J X 0 [(0, (3, 90)), (1, (0, a1)), (2, (0, a2)), (3, (0, a3)), (4, (0, a4)), (5, (0, a5))] [] 118 V0
  have hT := F_X12_weight_eq a1 a2 a3 a4 a5 V0
  refine pm_aload_n hC 0 (by decide) dX12_weight_0 rfl ?_
  refine pm_iload_n hC 1 dX12_weight_1 rfl ?_
  refine pm_iload_n hC 2 dX12_weight_2 rfl ?_
  refine pm_iload_n hC 3 dX12_weight_3 rfl ?_
  refine pm_iload hC 4 dX12_weight_4 rfl ?_
  refine pm_callV (ci := 12) (as := [(0, a1), (0, a2), (0, a3), (0, a4)]) (st := []) hC 90 (fB_X12_weighsIf a1 a2 a3 a4 ⟨by omega, by omega⟩ ⟨by omega, by omega⟩ ⟨by omega, by omega⟩ ⟨by omega, by omega⟩) lm_X12_383 li_X12_weighsIf (by decide) (by decide) rfl rfl rfl (by decide) rfl rfl (Nat.le_of_ble_eq_true rfl) ⟨Nat.le_refl _, Or.inl rfl⟩ dX12_weight_6 ⟨rfl, hV0, hn_pm_h1, hn_pm_h2⟩ (fun r1 V2 hp3 => ?_)
  obtain ⟨y4, rfl, b5, hV6, hF7, hxp8, hxp9, hE10⟩ := hp3
  replace hT := hT.trans (pf_call_eq hE10)
  change pm_J X 9 [(0, (3, 90)), (1, (0, a1)), (2, (0, a2)), (3, (0, a3)), (4, (0, a4)), (5, (0, a5))] [(0, y4)] 118 V2
  have hF11 := pm_fs.tr (pm_fs.rf (cs := [110, 111, 112]) (fs := [42, 43, 44, 45, 46, 47, 48, 49, 51]) (V := V0)) hF7 (by decide) (by decide)
  have hp12 : pm_h1 V2 := (pm_h1.fr hn_pm_h1 (hF7.2 16 (by decide)) (hF7.1 97 (by decide) (by decide)))
  have hp13 : pm_h2 V2 := (pm_h2.fr hn_pm_h2 (hF7.2 16 (by decide)) (hF7.2 21 (by decide)) (hF7.1 99 (by decide) (by decide)))
  refine pm_if_eq (tgt := 33) hC ⟨by omega, by omega⟩ dX12_weight_9 (by decide) (fun c14 => ?_) (fun c14 => ?_)
  · skip
    replace hT := hT.trans (if_pos c14)
    refine pm_iconst (v := (-1)) hC dX12_weight_33 ?_
    exact pm_iret hC hR pm_nar0 ⟨(-1), rfl, ⟨by omega, by omega⟩, hV6, hF11, hT⟩ dX12_weight_34
  · skip
    replace hT := hT.trans (if_neg c14)
    refine pm_iload hC 5 dX12_weight_12 rfl ?_
    refine pm_iconst (v := (-1)) hC dX12_weight_14 ?_
    refine pm_icmp_eq (tgt := 35) hC ⟨by omega, by omega⟩ ⟨by decide, by decide⟩ dX12_weight_15 (by decide) (fun c15 => ?_) (fun c15 => ?_)
    · skip
      replace hT := hT.trans (if_pos c15)
      refine pm_iload hC 5 dX12_weight_35 rfl ?_
      refine pm_iconst (v := (-1)) hC dX12_weight_37 ?_
      refine pm_icmp_ne (tgt := 48) hC ⟨by omega, by omega⟩ ⟨by decide, by decide⟩ dX12_weight_38 (by decide) (fun c16 => ?_) (fun c16 => ?_)
      · skip
        replace hT := hT.trans (if_pos c16)
        exfalso; omega
      · skip
        replace hT := hT.trans (if_neg (fun q => q c16))
        refine pm_aload_n hC 0 (by decide) dX12_weight_41 rfl ?_
        obtain ⟨y17, e18⟩ : ∃ y, V2 90 51 = y := ⟨_, rfl⟩
        have b19 := hV6.get 90 51 (lo := 0) (hi := 720000000) (by decide) (by decide) rfl
        rw [e18] at b19
        replace hT := hT.trans (pf_let_eq e18)
        refine pm_getf (v := y17) hC 90 fl_X12_362 rfl rfl (by decide) rfl e18 dX12_weight_42 ?_
        refine pm_goto (tgt := 55) hC dX12_weight_45 (by decide) ?_
        refine pm_l2i hC dX12_weight_55 ?_
        exact pm_iret hC hR pm_nar0 ⟨y17, rfl, ⟨by omega, by omega⟩, hV6, hF11, hT⟩ dX12_weight_56
    · skip
      replace hT := hT.trans (if_neg c15)
      refine pm_iload hC 5 dX12_weight_18 rfl ?_
      refine pm_iconst (v := 0) hC dX12_weight_20 ?_
      refine pm_aload_n hC 0 (by decide) dX12_weight_21 rfl ?_
      obtain ⟨y20, e21⟩ : ∃ y, V2 90 16 = y := ⟨_, rfl⟩
      have b22 := hV6.get 90 16 (lo := 2) (hi := 9) (by decide) (by decide) rfl
      rw [e21] at b22
      replace hT := hT.trans (pf_let_eq e21)
      refine pm_getf (v := y20) hC 90 fl_X12_220 rfl rfl (by decide) rfl e21 dX12_weight_22 ?_
      refine pm_iconst (v := 1) hC dX12_weight_25 ?_
      refine pm_isub hC dX12_weight_26 ?_
      refine pm_callS (as := [(0, a5), (0, 0), (0, (y20 - 1))]) (st := []) hC (fB_X12_in a5 0 (y20 - 1) ⟨by omega, by omega⟩ ⟨by decide, by decide⟩ ⟨by omega, by omega⟩) lm_X12_98 ls_X12_in (by decide) (by decide) rfl rfl (Nat.le_of_ble_eq_true rfl) ⟨Nat.le_refl _, Or.inl rfl⟩ dX12_weight_27 ⟨rfl, hV6⟩ (fun r23 V24 hp25 => ?_)
      obtain ⟨y26, rfl, b27, rfl, hE28⟩ := hp25
      replace hT := hT.trans (pf_call_eq hE28)
      change pm_J X 30 [(0, (3, 90)), (1, (0, a1)), (2, (0, a2)), (3, (0, a3)), (4, (0, a4)), (5, (0, a5))] [(0, y26)] 118 V2
      refine pm_if_ne (tgt := 35) hC ⟨by omega, by omega⟩ dX12_weight_30 (by decide) (fun c29 => ?_) (fun c29 => ?_)
      · skip
        replace hT := hT.trans (if_pos c29)
        refine pm_iload hC 5 dX12_weight_35 rfl ?_
        refine pm_iconst (v := (-1)) hC dX12_weight_37 ?_
        refine pm_icmp_ne (tgt := 48) hC ⟨by omega, by omega⟩ ⟨by decide, by decide⟩ dX12_weight_38 (by decide) (fun c30 => ?_) (fun c30 => ?_)
        · skip
          replace hT := hT.trans (if_pos c30)
          refine pm_aload_n hC 0 (by decide) dX12_weight_48 rfl ?_
          have e31 : V2 90 50 = 112 := hV6.one 90 50 (by decide) (by decide) rfl
          refine pm_getf (v := 112) hC 90 fl_X12_76 rfl rfl (by decide) rfl e31 dX12_weight_49 ?_
          refine pm_iload hC 5 dX12_weight_52 rfl ?_
          obtain ⟨y32, e33⟩ : ∃ y, V2 112 (a5 : Int).toNat = y := ⟨_, rfl⟩
          replace hT := hT.trans (pf_let_eq e33)
          have b34 := hV6.get 112 (a5 : Int).toNat (lo := 0) (hi := 80000000) (t := 0) (by decide) (show _ < 9 by omega) rfl
          rw [e33] at b34
          refine pm_laload (len := 9) (v := y32) hC 112 rfl rfl (by decide) ⟨by omega, by omega⟩ (by decide) e33 dX12_weight_54 ?_
          refine pm_l2i hC dX12_weight_55 ?_
          exact pm_iret hC hR pm_nar0 ⟨y32, rfl, ⟨by omega, by omega⟩, hV6, hF11, hT⟩ dX12_weight_56
        · skip
          replace hT := hT.trans (if_neg (fun q => q c30))
          exfalso; omega
      · skip
        replace hT := hT.trans (if_neg (fun q => q c29))
        refine pm_iconst (v := (-1)) hC dX12_weight_33 ?_
        exact pm_iret hC hR pm_nar0 ⟨(-1), rfl, ⟨by omega, by omega⟩, hV6, hF11, hT⟩ dX12_weight_34
set_option maxHeartbeats 4000000 in
set_option maxRecDepth 100000 in
theorem fB_X12_chance (a1 a2 a3 a4 a5 : Int) (h0 : (-2147483648) ≤ a1 ∧ a1 ≤ 2147483647) (h1 : (-2147483648) ≤ a2 ∧ a2 ≤ 2147483647) (h2 : (-2147483648) ≤ a3 ∧ a3 ≤ 2147483647) (h3 : (-2147483648) ≤ a4 ∧ a4 ≤ 2147483647) (h4 : (-2147483648) ≤ a5 ∧ a5 ≤ 2147483647) : pm_K 5 yX12_chance cX12_chance 6 (some .int) (fun av V => av = [(3, 90), (0, a1), (0, a2), (0, a3), (0, a4), (0, a5)] ∧ pm_oq pm_qB V ∧ pm_h1 V ∧ pm_h2 V) (fun _ V r V' => ∃ y, r = some (0, y) ∧ ((-2147483648) ≤ y ∧ y ≤ 2147483647) ∧ pm_oq pm_qB V' ∧ pm_fs [110, 111, 112] [42, 43, 44, 45, 46, 47, 48, 49, 51] V V' ∧ F_X12_chance a1 a2 a3 a4 a5 V = (y, V')) := by
  refine pm_MT.of (by decide) ⟨Nat.le_refl _, by decide⟩ (fun av V h => by rw [h.1]; exact (by decide : pm_words [(3, 0), (0, 0), (0, 0), (0, 0), (0, 0), (0, 0)] ≤ 6)) ?_
  rintro X av V0 hC - hR ⟨rfl, hV0, hn_pm_h1, hn_pm_h2⟩
  change pm_J X 0 [(0, (3, 90)), (1, (0, a1)), (2, (0, a2)), (3, (0, a3)), (4, (0, a4)), (5, (0, a5))] [] 118 V0
  have hT := F_X12_chance_eq a1 a2 a3 a4 a5 V0
  refine pm_aload_n hC 0 (by decide) dX12_chance_0 rfl ?_
  refine pm_iload_n hC 1 dX12_chance_1 rfl ?_
  refine pm_iload_n hC 2 dX12_chance_2 rfl ?_
  refine pm_iload_n hC 3 dX12_chance_3 rfl ?_
  refine pm_iload hC 4 dX12_chance_4 rfl ?_
  refine pm_callV (ci := 12) (as := [(0, a1), (0, a2), (0, a3), (0, a4)]) (st := []) hC 90 (fB_X12_weighsIf a1 a2 a3 a4 ⟨by omega, by omega⟩ ⟨by omega, by omega⟩ ⟨by omega, by omega⟩ ⟨by omega, by omega⟩) lm_X12_383 li_X12_weighsIf (by decide) (by decide) rfl rfl rfl (by decide) rfl rfl (Nat.le_of_ble_eq_true rfl) ⟨Nat.le_refl _, Or.inl rfl⟩ dX12_chance_6 ⟨rfl, hV0, hn_pm_h1, hn_pm_h2⟩ (fun r1 V2 hp3 => ?_)
  obtain ⟨y4, rfl, b5, hV6, hF7, hxp8, hxp9, hE10⟩ := hp3
  replace hT := hT.trans (pf_call_eq hE10)
  change pm_J X 9 [(0, (3, 90)), (1, (0, a1)), (2, (0, a2)), (3, (0, a3)), (4, (0, a4)), (5, (0, a5))] [(0, y4)] 118 V2
  have hF11 := pm_fs.tr (pm_fs.rf (cs := [110, 111, 112]) (fs := [42, 43, 44, 45, 46, 47, 48, 49, 51]) (V := V0)) hF7 (by decide) (by decide)
  have hp12 : pm_h1 V2 := (pm_h1.fr hn_pm_h1 (hF7.2 16 (by decide)) (hF7.1 97 (by decide) (by decide)))
  have hp13 : pm_h2 V2 := (pm_h2.fr hn_pm_h2 (hF7.2 16 (by decide)) (hF7.2 21 (by decide)) (hF7.1 99 (by decide) (by decide)))
  refine pm_if_eq (tgt := 36) hC ⟨by omega, by omega⟩ dX12_chance_9 (by decide) (fun c14 => ?_) (fun c14 => ?_)
  · skip
    replace hT := hT.trans (if_pos c14)
    refine pm_iconst (v := (-1)) hC dX12_chance_36 ?_
    exact pm_iret hC hR pm_nar0 ⟨(-1), rfl, ⟨by omega, by omega⟩, hV6, hF11, hT⟩ dX12_chance_37
  · skip
    replace hT := hT.trans (if_neg c14)
    refine pm_iload hC 5 dX12_chance_12 rfl ?_
    refine pm_iconst (v := 0) hC dX12_chance_14 ?_
    refine pm_aload_n hC 0 (by decide) dX12_chance_15 rfl ?_
    obtain ⟨y15, e16⟩ : ∃ y, V2 90 16 = y := ⟨_, rfl⟩
    have b17 := hV6.get 90 16 (lo := 2) (hi := 9) (by decide) (by decide) rfl
    rw [e16] at b17
    replace hT := hT.trans (pf_let_eq e16)
    refine pm_getf (v := y15) hC 90 fl_X12_220 rfl rfl (by decide) rfl e16 dX12_chance_16 ?_
    refine pm_iconst (v := 1) hC dX12_chance_19 ?_
    refine pm_isub hC dX12_chance_20 ?_
    refine pm_callS (as := [(0, a5), (0, 0), (0, (y15 - 1))]) (st := []) hC (fB_X12_in a5 0 (y15 - 1) ⟨by omega, by omega⟩ ⟨by decide, by decide⟩ ⟨by omega, by omega⟩) lm_X12_98 ls_X12_in (by decide) (by decide) rfl rfl (Nat.le_of_ble_eq_true rfl) ⟨Nat.le_refl _, Or.inl rfl⟩ dX12_chance_21 ⟨rfl, hV6⟩ (fun r18 V19 hp20 => ?_)
    obtain ⟨y21, rfl, b22, rfl, hE23⟩ := hp20
    replace hT := hT.trans (pf_call_eq hE23)
    change pm_J X 24 [(0, (3, 90)), (1, (0, a1)), (2, (0, a2)), (3, (0, a3)), (4, (0, a4)), (5, (0, a5))] [(0, y21)] 118 V2
    refine pm_if_eq (tgt := 36) hC ⟨by omega, by omega⟩ dX12_chance_24 (by decide) (fun c24 => ?_) (fun c24 => ?_)
    · skip
      replace hT := hT.trans (if_pos c24)
      refine pm_iconst (v := (-1)) hC dX12_chance_36 ?_
      exact pm_iret hC hR pm_nar0 ⟨(-1), rfl, ⟨by omega, by omega⟩, hV6, hF11, hT⟩ dX12_chance_37
    · skip
      replace hT := hT.trans (if_neg c24)
      refine pm_aload_n hC 0 (by decide) dX12_chance_27 rfl ?_
      refine pm_iload hC 5 dX12_chance_28 rfl ?_
      refine pm_callV (ci := 12) (as := [(0, a5)]) (st := []) hC 90 (fB_X12_chanceOf a5 ⟨by omega, by omega⟩) lm_X12_387 li_X12_chanceOf (by decide) (by decide) rfl rfl rfl (by decide) rfl rfl (Nat.le_of_ble_eq_true rfl) ⟨Nat.le_refl _, Or.inl rfl⟩ dX12_chance_30 ⟨rfl, hV6, (hxp8 (by omega)).2.1⟩ (fun r25 V26 hp27 => ?_)
      obtain ⟨y28, rfl, b29, rfl, hE30⟩ := hp27
      replace hT := hT.trans (pf_call_eq hE30)
      change pm_J X 33 [(0, (3, 90)), (1, (0, a1)), (2, (0, a2)), (3, (0, a3)), (4, (0, a4)), (5, (0, a5))] [(0, y28)] 118 V2
      refine pm_goto (tgt := 37) hC dX12_chance_33 (by decide) ?_
      exact pm_iret hC hR pm_nar0 ⟨y28, rfl, ⟨by omega, by omega⟩, hV6, hF11, hT⟩ dX12_chance_37
set_option maxHeartbeats 4000000 in
set_option maxRecDepth 100000 in
theorem fB_X12_kind (a1 a2 a3 a4 a5 : Int) (h0 : (-2147483648) ≤ a1 ∧ a1 ≤ 2147483647) (h1 : (-2147483648) ≤ a2 ∧ a2 ≤ 2147483647) (h2 : (-2147483648) ≤ a3 ∧ a3 ≤ 2147483647) (h3 : (-2147483648) ≤ a4 ∧ a4 ≤ 2147483647) (h4 : (-2147483648) ≤ a5 ∧ a5 ≤ 2147483647) : pm_K 5 yX12_kind cX12_kind 6 (some .int) (fun av V => av = [(3, 90), (0, a1), (0, a2), (0, a3), (0, a4), (0, a5)] ∧ pm_oq pm_qB V ∧ pm_h1 V ∧ pm_h2 V) (fun _ V r V' => ∃ y, r = some (0, y) ∧ ((-2147483648) ≤ y ∧ y ≤ 2147483647) ∧ pm_oq pm_qB V' ∧ pm_fs [110, 111, 112] [42, 43, 44, 45, 46, 47, 48, 49, 51] V V' ∧ F_X12_kind a1 a2 a3 a4 a5 V = (y, V')) := by
  refine pm_MT.of (by decide) ⟨Nat.le_refl _, by decide⟩ (fun av V h => by rw [h.1]; exact (by decide : pm_words [(3, 0), (0, 0), (0, 0), (0, 0), (0, 0), (0, 0)] ≤ 6)) ?_
  rintro X av V0 hC - hR ⟨rfl, hV0, hn_pm_h1, hn_pm_h2⟩
  change pm_J X 0 [(0, (3, 90)), (1, (0, a1)), (2, (0, a2)), (3, (0, a3)), (4, (0, a4)), (5, (0, a5))] [] 118 V0
  have hT := F_X12_kind_eq a1 a2 a3 a4 a5 V0
  refine pm_aload_n hC 0 (by decide) dX12_kind_0 rfl ?_
  refine pm_iload_n hC 1 dX12_kind_1 rfl ?_
  refine pm_iload_n hC 2 dX12_kind_2 rfl ?_
  refine pm_iload_n hC 3 dX12_kind_3 rfl ?_
  refine pm_iload hC 4 dX12_kind_4 rfl ?_
  refine pm_callV (ci := 12) (as := [(0, a1), (0, a2), (0, a3), (0, a4)]) (st := []) hC 90 (fB_X12_weighsIf a1 a2 a3 a4 ⟨by omega, by omega⟩ ⟨by omega, by omega⟩ ⟨by omega, by omega⟩ ⟨by omega, by omega⟩) lm_X12_383 li_X12_weighsIf (by decide) (by decide) rfl rfl rfl (by decide) rfl rfl (Nat.le_of_ble_eq_true rfl) ⟨Nat.le_refl _, Or.inl rfl⟩ dX12_kind_6 ⟨rfl, hV0, hn_pm_h1, hn_pm_h2⟩ (fun r1 V2 hp3 => ?_)
  obtain ⟨y4, rfl, b5, hV6, hF7, hxp8, hxp9, hE10⟩ := hp3
  replace hT := hT.trans (pf_call_eq hE10)
  change pm_J X 9 [(0, (3, 90)), (1, (0, a1)), (2, (0, a2)), (3, (0, a3)), (4, (0, a4)), (5, (0, a5))] [(0, y4)] 118 V2
  have hF11 := pm_fs.tr (pm_fs.rf (cs := [110, 111, 112]) (fs := [42, 43, 44, 45, 46, 47, 48, 49, 51]) (V := V0)) hF7 (by decide) (by decide)
  have hp12 : pm_h1 V2 := (pm_h1.fr hn_pm_h1 (hF7.2 16 (by decide)) (hF7.1 97 (by decide) (by decide)))
  have hp13 : pm_h2 V2 := (pm_h2.fr hn_pm_h2 (hF7.2 16 (by decide)) (hF7.2 21 (by decide)) (hF7.1 99 (by decide) (by decide)))
  refine pm_if_eq (tgt := 31) hC ⟨by omega, by omega⟩ dX12_kind_9 (by decide) (fun c14 => ?_) (fun c14 => ?_)
  · skip
    replace hT := hT.trans (if_pos c14)
    refine pm_iconst (v := (-1)) hC dX12_kind_31 ?_
    exact pm_iret hC hR pm_nar0 ⟨(-1), rfl, ⟨by omega, by omega⟩, hV6, hF11, hT⟩ dX12_kind_32
  · skip
    replace hT := hT.trans (if_neg c14)
    refine pm_iload hC 5 dX12_kind_12 rfl ?_
    refine pm_iconst (v := 0) hC dX12_kind_14 ?_
    refine pm_iconst (v := 3) hC dX12_kind_15 ?_
    refine pm_callS (as := [(0, a5), (0, 0), (0, 3)]) (st := []) hC (fB_X12_in a5 0 3 ⟨by omega, by omega⟩ ⟨by decide, by decide⟩ ⟨by decide, by decide⟩) lm_X12_98 ls_X12_in (by decide) (by decide) rfl rfl (Nat.le_of_ble_eq_true rfl) ⟨Nat.le_refl _, Or.inl rfl⟩ dX12_kind_16 ⟨rfl, hV6⟩ (fun r15 V16 hp17 => ?_)
    obtain ⟨y18, rfl, b19, rfl, hE20⟩ := hp17
    replace hT := hT.trans (pf_call_eq hE20)
    change pm_J X 19 [(0, (3, 90)), (1, (0, a1)), (2, (0, a2)), (3, (0, a3)), (4, (0, a4)), (5, (0, a5))] [(0, y18)] 118 V2
    refine pm_if_eq (tgt := 31) hC ⟨by omega, by omega⟩ dX12_kind_19 (by decide) (fun c21 => ?_) (fun c21 => ?_)
    · skip
      replace hT := hT.trans (if_pos c21)
      refine pm_iconst (v := (-1)) hC dX12_kind_31 ?_
      exact pm_iret hC hR pm_nar0 ⟨(-1), rfl, ⟨by omega, by omega⟩, hV6, hF11, hT⟩ dX12_kind_32
    · skip
      replace hT := hT.trans (if_neg c21)
      refine pm_aload_n hC 0 (by decide) dX12_kind_22 rfl ?_
      refine pm_iload hC 5 dX12_kind_23 rfl ?_
      refine pm_callV (ci := 12) (as := [(0, a5)]) (st := []) hC 90 (fB_X12_chanceOfKind a5 ⟨by omega, by omega⟩) lm_X12_390 li_X12_chanceOfKind (by decide) (by decide) rfl rfl rfl (by decide) rfl rfl (Nat.le_of_ble_eq_true rfl) ⟨Nat.le_refl _, Or.inl rfl⟩ dX12_kind_25 ⟨rfl, hV6, (hxp8 (by omega)).2.1⟩ (fun r22 V23 hp24 => ?_)
      obtain ⟨y25, rfl, b26, rfl, hE27⟩ := hp24
      replace hT := hT.trans (pf_call_eq hE27)
      change pm_J X 28 [(0, (3, 90)), (1, (0, a1)), (2, (0, a2)), (3, (0, a3)), (4, (0, a4)), (5, (0, a5))] [(0, y25)] 118 V2
      refine pm_goto (tgt := 32) hC dX12_kind_28 (by decide) ?_
      exact pm_iret hC hR pm_nar0 ⟨y25, rfl, ⟨by omega, by omega⟩, hV6, hF11, hT⟩ dX12_kind_32
set_option maxHeartbeats 4000000 in
set_option maxRecDepth 100000 in
theorem fB_X12_likely (a1 a2 a3 a4 : Int) (h0 : (-2147483648) ≤ a1 ∧ a1 ≤ 2147483647) (h1 : (-2147483648) ≤ a2 ∧ a2 ≤ 2147483647) (h2 : (-2147483648) ≤ a3 ∧ a3 ≤ 2147483647) (h3 : (-2147483648) ≤ a4 ∧ a4 ≤ 2147483647) : pm_K 5 yX12_likely cX12_likely 5 (some .int) (fun av V => av = [(3, 90), (0, a1), (0, a2), (0, a3), (0, a4)] ∧ pm_oq pm_qB V ∧ pm_h1 V ∧ pm_h2 V) (fun _ V r V' => ∃ y, r = some (0, y) ∧ ((-1) ≤ y ∧ y ≤ 8) ∧ pm_oq pm_qB V' ∧ pm_fs [110, 111, 112] [42, 43, 44, 45, 46, 47, 48, 49, 51] V V' ∧ F_X12_likely a1 a2 a3 a4 V = (y, V')) := by
  refine pm_MT.of (by decide) ⟨Nat.le_refl _, by decide⟩ (fun av V h => by rw [h.1]; exact (by decide : pm_words [(3, 0), (0, 0), (0, 0), (0, 0), (0, 0)] ≤ 5)) ?_
  rintro X av V0 hC - hR ⟨rfl, hV0, hn_pm_h1, hn_pm_h2⟩
  change pm_J X 0 [(0, (3, 90)), (1, (0, a1)), (2, (0, a2)), (3, (0, a3)), (4, (0, a4))] [] 118 V0
  have hT := F_X12_likely_eq a1 a2 a3 a4 V0
  refine pm_aload_n hC 0 (by decide) dX12_likely_0 rfl ?_
  refine pm_iload_n hC 1 dX12_likely_1 rfl ?_
  refine pm_iload_n hC 2 dX12_likely_2 rfl ?_
  refine pm_iload_n hC 3 dX12_likely_3 rfl ?_
  refine pm_iload hC 4 dX12_likely_4 rfl ?_
  refine pm_callV (ci := 12) (as := [(0, a1), (0, a2), (0, a3), (0, a4)]) (st := []) hC 90 (fB_X12_weighsIf a1 a2 a3 a4 ⟨by omega, by omega⟩ ⟨by omega, by omega⟩ ⟨by omega, by omega⟩ ⟨by omega, by omega⟩) lm_X12_383 li_X12_weighsIf (by decide) (by decide) rfl rfl rfl (by decide) rfl rfl (Nat.le_of_ble_eq_true rfl) ⟨Nat.le_refl _, Or.inl rfl⟩ dX12_likely_6 ⟨rfl, hV0, hn_pm_h1, hn_pm_h2⟩ (fun r1 V2 hp3 => ?_)
  obtain ⟨y4, rfl, b5, hV6, hF7, hxp8, hxp9, hE10⟩ := hp3
  replace hT := hT.trans (pf_call_eq hE10)
  change pm_J X 9 [(0, (3, 90)), (1, (0, a1)), (2, (0, a2)), (3, (0, a3)), (4, (0, a4))] [(0, y4)] 118 V2
  have hF11 := pm_fs.tr (pm_fs.rf (cs := [110, 111, 112]) (fs := [42, 43, 44, 45, 46, 47, 48, 49, 51]) (V := V0)) hF7 (by decide) (by decide)
  have hp12 : pm_h1 V2 := (pm_h1.fr hn_pm_h1 (hF7.2 16 (by decide)) (hF7.1 97 (by decide) (by decide)))
  have hp13 : pm_h2 V2 := (pm_h2.fr hn_pm_h2 (hF7.2 16 (by decide)) (hF7.2 21 (by decide)) (hF7.1 99 (by decide) (by decide)))
  refine pm_if_eq (tgt := 19) hC ⟨by omega, by omega⟩ dX12_likely_9 (by decide) (fun c14 => ?_) (fun c14 => ?_)
  · skip
    replace hT := hT.trans (if_pos c14)
    refine pm_iconst (v := (-1)) hC dX12_likely_19 ?_
    exact pm_iret hC hR pm_nar0 ⟨(-1), rfl, ⟨by omega, by omega⟩, hV6, hF11, hT⟩ dX12_likely_20
  · skip
    replace hT := hT.trans (if_neg c14)
    refine pm_aload_n hC 0 (by decide) dX12_likely_12 rfl ?_
    refine pm_callV (ci := 12) (as := []) (st := []) hC 90 fB_X12_likeliest lm_X12_393 li_X12_likeliest (by decide) (by decide) rfl rfl rfl (by decide) rfl rfl (Nat.le_of_ble_eq_true rfl) ⟨Nat.le_refl _, Or.inl rfl⟩ dX12_likely_13 ⟨rfl, hV6⟩ (fun r15 V16 hp17 => ?_)
    obtain ⟨y18, rfl, b19, rfl, hE20⟩ := hp17
    replace hT := hT.trans (pf_call_eq hE20)
    change pm_J X 16 [(0, (3, 90)), (1, (0, a1)), (2, (0, a2)), (3, (0, a3)), (4, (0, a4))] [(0, y18)] 118 V2
    refine pm_goto (tgt := 20) hC dX12_likely_16 (by decide) ?_
    exact pm_iret hC hR pm_nar0 ⟨y18, rfl, ⟨by omega, by omega⟩, hV6, hF11, hT⟩ dX12_likely_20
set_option maxHeartbeats 4000000 in
set_option maxRecDepth 100000 in
theorem fB_X12_noticed (a1 a2 a3 : Int) (h0 : (-2147483648) ≤ a1 ∧ a1 ≤ 2147483647) (h1 : (-2147483648) ≤ a2 ∧ a2 ≤ 2147483647) (h2 : (-2147483648) ≤ a3 ∧ a3 ≤ 2147483647) : pm_K 5 yX12_noticed cX12_noticed 4 (some .int) (fun av V => av = [(3, 90), (0, a1), (0, a2), (0, a3)] ∧ pm_oq pm_qB V ∧ pm_h1 V ∧ pm_h2 V) (fun _ V r V' => ∃ y, r = some (0, y) ∧ ((-2147483648) ≤ y ∧ y ≤ 2147483647) ∧ pm_oq pm_qB V' ∧ pm_fs [110, 111, 112] [42, 43, 44, 45, 46, 47, 48, 49, 51] V V' ∧ F_X12_noticed a1 a2 a3 V = (y, V')) := by
  refine pm_MT.of (by decide) ⟨Nat.le_refl _, by decide⟩ (fun av V h => by rw [h.1]; exact (by decide : pm_words [(3, 0), (0, 0), (0, 0), (0, 0)] ≤ 4)) ?_
  rintro X av V0 hC - hR ⟨rfl, hV0, hn_pm_h1, hn_pm_h2⟩
  change pm_J X 0 [(0, (3, 90)), (1, (0, a1)), (2, (0, a2)), (3, (0, a3))] [] 118 V0
  have hT := F_X12_noticed_eq a1 a2 a3 V0
  refine pm_aload_n hC 0 (by decide) dX12_noticed_0 rfl ?_
  refine pm_iconst (v := 4) hC dX12_noticed_1 ?_
  refine pm_iload_n hC 1 dX12_noticed_2 rfl ?_
  refine pm_iload_n hC 2 dX12_noticed_3 rfl ?_
  refine pm_iload_n hC 3 dX12_noticed_4 rfl ?_
  refine pm_callV (ci := 12) (as := [(0, 4), (0, a1), (0, a2), (0, a3)]) (st := []) hC 90 (fB_X12_weighsIf 4 a1 a2 a3 ⟨by decide, by decide⟩ ⟨by omega, by omega⟩ ⟨by omega, by omega⟩ ⟨by omega, by omega⟩) lm_X12_383 li_X12_weighsIf (by decide) (by decide) rfl rfl rfl (by decide) rfl rfl (Nat.le_of_ble_eq_true rfl) ⟨Nat.le_refl _, Or.inl rfl⟩ dX12_noticed_5 ⟨rfl, hV0, hn_pm_h1, hn_pm_h2⟩ (fun r1 V2 hp3 => ?_)
  obtain ⟨y4, rfl, b5, hV6, hF7, hxp8, hxp9, hE10⟩ := hp3
  replace hT := hT.trans (pf_call_eq hE10)
  change pm_J X 8 [(0, (3, 90)), (1, (0, a1)), (2, (0, a2)), (3, (0, a3))] [(0, y4)] 118 V2
  have hF11 := pm_fs.tr (pm_fs.rf (cs := [110, 111, 112]) (fs := [42, 43, 44, 45, 46, 47, 48, 49, 51]) (V := V0)) hF7 (by decide) (by decide)
  have hp12 : pm_h1 V2 := (pm_h1.fr hn_pm_h1 (hF7.2 16 (by decide)) (hF7.1 97 (by decide) (by decide)))
  have hp13 : pm_h2 V2 := (pm_h2.fr hn_pm_h2 (hF7.2 16 (by decide)) (hF7.2 21 (by decide)) (hF7.1 99 (by decide) (by decide)))
  refine pm_if_eq (tgt := 18) hC ⟨by omega, by omega⟩ dX12_noticed_8 (by decide) (fun c14 => ?_) (fun c14 => ?_)
  · skip
    replace hT := hT.trans (if_pos c14)
    refine pm_iconst (v := (-1)) hC dX12_noticed_18 ?_
    exact pm_iret hC hR pm_nar0 ⟨(-1), rfl, ⟨by omega, by omega⟩, hV6, hF11, hT⟩ dX12_noticed_19
  · skip
    replace hT := hT.trans (if_neg c14)
    refine pm_aload_n hC 0 (by decide) dX12_noticed_11 rfl ?_
    refine pm_callV (ci := 12) (as := []) (st := []) hC 90 fB_X12_noticedNow lm_X12_396 li_X12_noticedNow (by decide) (by decide) rfl rfl rfl (by decide) rfl rfl (Nat.le_of_ble_eq_true rfl) ⟨Nat.le_refl _, Or.inl rfl⟩ dX12_noticed_12 ⟨rfl, hV6⟩ (fun r15 V16 hp17 => ?_)
    obtain ⟨y18, rfl, b19, rfl, hE20⟩ := hp17
    replace hT := hT.trans (pf_call_eq hE20)
    change pm_J X 15 [(0, (3, 90)), (1, (0, a1)), (2, (0, a2)), (3, (0, a3))] [(0, y18)] 118 V2
    refine pm_goto (tgt := 19) hC dX12_noticed_15 (by decide) ?_
    exact pm_iret hC hR pm_nar0 ⟨y18, rfl, ⟨by omega, by omega⟩, hV6, hF11, hT⟩ dX12_noticed_19
