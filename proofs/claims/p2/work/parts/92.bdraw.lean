noncomputable def F_X12_draw (a1 a2 a3 a4 : Int) (V0 : pm_M) : Int × pm_M := pf_let (V0 90 16) fun y1 => pf_let (V0 90 25) fun y4 => pf_call (F_X12_isLaw a1 V0) fun y10 _ => (if y10 = 0 then (((-1), V0)) else (pf_call (F_X12_isPerson a2 V0) fun y17 _ => (if y17 = 0 then (((-1), V0)) else (pf_call (F_X12_in a3 0 1000000 V0) fun y24 _ => (if y24 = 0 then (((-1), V0)) else (pf_call (F_X12_in a4 1 20 V0) fun y31 _ => (if y31 = 0 then (((-1), V0)) else ((if (y4 + a4) ≤ 60 then (pf_let ((pm_up V0 90 57 a3)) fun V36 => pf_val ((0 : Int), V0) (fun (q : Int × pm_M) => match q with | (x46, V48) => (pf_let (V48 90 25) fun y63 => (if a4 ≤ x46 then ((.inr (y63, V48))) else (pf_call (F_X12_draws y1 V48) fun y70 V68 => pf_call (F_X12_draws y1 V68) fun y84 V82 => pf_call (F_X12_draws 10 V82) fun y98 V96 => pf_call (F_X12_draws 10 V96) fun y112 V110 => pf_call (F_X12_draws 199 V110) fun y126 V124 => pf_call (F_X12_works (((100 * a2) + (10 * y70)) + y84) ((10 * y98) + y112) (y126 - 99) V124) fun _ V138 => pf_let (V138 90 42) fun z153 => pf_let (V138 90 43) fun z155 => pf_call (F_X12_weighs a1 V138) fun _ V158 => pf_let (V158 90 51) fun y176 => pf_call (F_X12_draws y176 V158) fun y183 V181 => pf_val (.inr ((0 : Int), V0)) (fun (q : Int × Int) => match q with | (x200, x202) => (pf_let (V181 112 (x202 : Int).toNat) fun y213 => pf_let (pm_cmp x200 y213) fun y216 => (if y216 < 0 then (pf_call (F_X12_draws 1000 V181) fun y222 V220 => pf_call (F_X12_noticedNow  V220) fun y243 _ => (if y243 ≤ y222 then (pf_call (F_X12_keepsAnswer (((100 * a2) + (10 * y70)) + y84) ((10 * y98) + y112) (y126 - 99) x202 0 V220) fun _ V249 => pf_let (x46 + 1) fun x267 => pf_let (V249 90 25) fun y269 => (.inr (.inl (x267, V249)))) else (pf_call (F_X12_keepsAnswer (((100 * a2) + (10 * y70)) + y84) ((10 * y98) + y112) (y126 - 99) x202 1 V220) fun _ V274 => pf_let (x46 + 1) fun x292 => pf_let (V274 90 25) fun y294 => (.inr (.inl (x292, V274)))))) else (pf_let (x202 + 1) fun x297 => (.inl ((x200 - y213), x297)))))) (y183, 0))))) (0, V36)) else (((-1), V0)))))))))))
theorem F_X12_draw_eq (a1 a2 a3 a4 : Int) (V0 : pm_M) : F_X12_draw a1 a2 a3 a4 V0 = pf_let (V0 90 16) fun y1 => pf_let (V0 90 25) fun y4 => pf_call (F_X12_isLaw a1 V0) fun y10 _ => (if y10 = 0 then (((-1), V0)) else (pf_call (F_X12_isPerson a2 V0) fun y17 _ => (if y17 = 0 then (((-1), V0)) else (pf_call (F_X12_in a3 0 1000000 V0) fun y24 _ => (if y24 = 0 then (((-1), V0)) else (pf_call (F_X12_in a4 1 20 V0) fun y31 _ => (if y31 = 0 then (((-1), V0)) else ((if (y4 + a4) ≤ 60 then (pf_let ((pm_up V0 90 57 a3)) fun V36 => pf_val ((0 : Int), V0) (fun (q : Int × pm_M) => match q with | (x46, V48) => (pf_let (V48 90 25) fun y63 => (if a4 ≤ x46 then ((.inr (y63, V48))) else (pf_call (F_X12_draws y1 V48) fun y70 V68 => pf_call (F_X12_draws y1 V68) fun y84 V82 => pf_call (F_X12_draws 10 V82) fun y98 V96 => pf_call (F_X12_draws 10 V96) fun y112 V110 => pf_call (F_X12_draws 199 V110) fun y126 V124 => pf_call (F_X12_works (((100 * a2) + (10 * y70)) + y84) ((10 * y98) + y112) (y126 - 99) V124) fun _ V138 => pf_let (V138 90 42) fun z153 => pf_let (V138 90 43) fun z155 => pf_call (F_X12_weighs a1 V138) fun _ V158 => pf_let (V158 90 51) fun y176 => pf_call (F_X12_draws y176 V158) fun y183 V181 => pf_val (.inr ((0 : Int), V0)) (fun (q : Int × Int) => match q with | (x200, x202) => (pf_let (V181 112 (x202 : Int).toNat) fun y213 => pf_let (pm_cmp x200 y213) fun y216 => (if y216 < 0 then (pf_call (F_X12_draws 1000 V181) fun y222 V220 => pf_call (F_X12_noticedNow  V220) fun y243 _ => (if y243 ≤ y222 then (pf_call (F_X12_keepsAnswer (((100 * a2) + (10 * y70)) + y84) ((10 * y98) + y112) (y126 - 99) x202 0 V220) fun _ V249 => pf_let (x46 + 1) fun x267 => pf_let (V249 90 25) fun y269 => (.inr (.inl (x267, V249)))) else (pf_call (F_X12_keepsAnswer (((100 * a2) + (10 * y70)) + y84) ((10 * y98) + y112) (y126 - 99) x202 1 V220) fun _ V274 => pf_let (x46 + 1) fun x292 => pf_let (V274 90 25) fun y294 => (.inr (.inl (x292, V274)))))) else (pf_let (x202 + 1) fun x297 => (.inl ((x200 - y213), x297)))))) (y183, 0))))) (0, V36)) else (((-1), V0))))))))))) := rfl
set_option maxHeartbeats 4000000 in
set_option maxRecDepth 100000 in
theorem fB_X12_draw (a1 a2 a3 a4 : Int) (h0 : (-2147483648) ≤ a1 ∧ a1 ≤ 2147483647) (h1 : (-2147483648) ≤ a2 ∧ a2 ≤ 2147483647) (h2 : (-2147483648) ≤ a3 ∧ a3 ≤ 2147483647) (h3 : (-2147483648) ≤ a4 ∧ a4 ≤ 2147483647) : pm_K 4 yX12_draw cX12_draw 16 (some .int) (fun av V => av = [(3, 90), (0, a1), (0, a2), (0, a3), (0, a4)] ∧ pm_oq pm_qB V ∧ pm_h1 V ∧ pm_h2 V ∧ pm_h3 V) (fun _ V r V' => ∃ y, r = some (0, y) ∧ ((-1) ≤ y ∧ y ≤ 60) ∧ pm_oq pm_qB V' ∧ pm_fs [101, 110, 111, 112] [25, 42, 43, 44, 45, 46, 47, 48, 49, 51, 57] V V' ∧ pm_h3 V' ∧ F_X12_draw a1 a2 a3 a4 V = (y, V')) := by
  refine pm_MT.of (by decide) ⟨Nat.le_refl _, by decide⟩ (fun av V h => by rw [h.1]; exact (by decide : pm_words [(3, 0), (0, 0), (0, 0), (0, 0), (0, 0)] ≤ 16)) ?_
  rintro X av V0 hC - hR ⟨rfl, hV0, hn_pm_h1, hn_pm_h2, hn_pm_h3⟩
  change pm_J X 0 [(0, (3, 90)), (1, (0, a1)), (2, (0, a2)), (3, (0, a3)), (4, (0, a4))] [] 118 V0
  have hT := F_X12_draw_eq a1 a2 a3 a4 V0
  obtain ⟨y1, e2⟩ : ∃ y, V0 90 16 = y := ⟨_, rfl⟩
  have b3 := hV0.get 90 16 (lo := 2) (hi := 9) (by decide) (by decide) rfl
  rw [e2] at b3
  replace hT := hT.trans (pf_let_eq e2)
  obtain ⟨y4, e5⟩ : ∃ y, V0 90 25 = y := ⟨_, rfl⟩
  have b6 := hV0.get 90 25 (lo := 0) (hi := 60) (by decide) (by decide) rfl
  rw [e5] at b6
  replace hT := hT.trans (pf_let_eq e5)
  refine pm_iload_n hC 1 dX12_draw_0 rfl ?_
  refine pm_callS (as := [(0, a1)]) (st := []) hC (fB_X12_isLaw a1 ⟨by omega, by omega⟩) lm_X12_370 ls_X12_isLaw (by decide) (by decide) rfl rfl (Nat.le_of_ble_eq_true rfl) ⟨Nat.le_refl _, Or.inl rfl⟩ dX12_draw_1 ⟨rfl, hV0⟩ (fun r7 V8 hp9 => ?_)
  obtain ⟨y10, rfl, b11, rfl, hE12⟩ := hp9
  replace hT := hT.trans (pf_call_eq hE12)
  change pm_J X 4 [(0, (3, 90)), (1, (0, a1)), (2, (0, a2)), (3, (0, a3)), (4, (0, a4))] [(0, y10)] 118 V0
  refine pm_if_eq (tgt := 49) hC ⟨by omega, by omega⟩ dX12_draw_4 (by decide) (fun c13 => ?_) (fun c13 => ?_)
  · skip
    replace hT := hT.trans (if_pos c13)
    refine pm_iconst (v := (-1)) hC dX12_draw_49 ?_
    exact pm_iret hC hR pm_nar0 ⟨(-1), rfl, ⟨by omega, by omega⟩, hV0, (pm_fs.rf (cs := [101, 110, 111, 112]) (fs := [25, 42, 43, 44, 45, 46, 47, 48, 49, 51, 57]) (V := V0)), hn_pm_h3, hT⟩ dX12_draw_50
  · skip
    replace hT := hT.trans (if_neg c13)
    refine pm_aload_n hC 0 (by decide) dX12_draw_7 rfl ?_
    refine pm_iload_n hC 2 dX12_draw_8 rfl ?_
    refine pm_callV (ci := 12) (as := [(0, a2)]) (st := []) hC 90 (fB_X12_isPerson a2 ⟨by omega, by omega⟩) lm_X12_302 li_X12_isPerson (by decide) (by decide) rfl rfl rfl (by decide) rfl rfl (Nat.le_of_ble_eq_true rfl) ⟨Nat.le_refl _, Or.inl rfl⟩ dX12_draw_9 ⟨rfl, hV0⟩ (fun r14 V15 hp16 => ?_)
    obtain ⟨y17, rfl, b18, rfl, hE19⟩ := hp16
    replace hT := hT.trans (pf_call_eq hE19)
    change pm_J X 12 [(0, (3, 90)), (1, (0, a1)), (2, (0, a2)), (3, (0, a3)), (4, (0, a4))] [(0, y17)] 118 V0
    refine pm_if_eq (tgt := 49) hC ⟨by omega, by omega⟩ dX12_draw_12 (by decide) (fun c20 => ?_) (fun c20 => ?_)
    · skip
      replace hT := hT.trans (if_pos c20)
      refine pm_iconst (v := (-1)) hC dX12_draw_49 ?_
      exact pm_iret hC hR pm_nar0 ⟨(-1), rfl, ⟨by omega, by omega⟩, hV0, (pm_fs.rf (cs := [101, 110, 111, 112]) (fs := [25, 42, 43, 44, 45, 46, 47, 48, 49, 51, 57]) (V := V0)), hn_pm_h3, hT⟩ dX12_draw_50
    · skip
      replace hT := hT.trans (if_neg c20)
      refine pm_iload_n hC 3 dX12_draw_15 rfl ?_
      refine pm_iconst (v := 0) hC dX12_draw_16 ?_
      refine pm_ldcw (v := 1000000) hC 8023 dX12_draw_17 (by decide +kernel) ?_
      refine pm_callS (as := [(0, a3), (0, 0), (0, 1000000)]) (st := []) hC (fB_X12_in a3 0 1000000 ⟨by omega, by omega⟩ ⟨by decide, by decide⟩ ⟨by decide, by decide⟩) lm_X12_98 ls_X12_in (by decide) (by decide) rfl rfl (Nat.le_of_ble_eq_true rfl) ⟨Nat.le_refl _, Or.inl rfl⟩ dX12_draw_20 ⟨rfl, hV0⟩ (fun r21 V22 hp23 => ?_)
      obtain ⟨y24, rfl, b25, rfl, hE26⟩ := hp23
      replace hT := hT.trans (pf_call_eq hE26)
      change pm_J X 23 [(0, (3, 90)), (1, (0, a1)), (2, (0, a2)), (3, (0, a3)), (4, (0, a4))] [(0, y24)] 118 V0
      refine pm_if_eq (tgt := 49) hC ⟨by omega, by omega⟩ dX12_draw_23 (by decide) (fun c27 => ?_) (fun c27 => ?_)
      · skip
        replace hT := hT.trans (if_pos c27)
        refine pm_iconst (v := (-1)) hC dX12_draw_49 ?_
        exact pm_iret hC hR pm_nar0 ⟨(-1), rfl, ⟨by omega, by omega⟩, hV0, (pm_fs.rf (cs := [101, 110, 111, 112]) (fs := [25, 42, 43, 44, 45, 46, 47, 48, 49, 51, 57]) (V := V0)), hn_pm_h3, hT⟩ dX12_draw_50
      · skip
        replace hT := hT.trans (if_neg c27)
        refine pm_iload hC 4 dX12_draw_26 rfl ?_
        refine pm_iconst (v := 1) hC dX12_draw_28 ?_
        refine pm_bipush (v := 20) hC dX12_draw_29 (by decide) ?_
        refine pm_callS (as := [(0, a4), (0, 1), (0, 20)]) (st := []) hC (fB_X12_in a4 1 20 ⟨by omega, by omega⟩ ⟨by decide, by decide⟩ ⟨by decide, by decide⟩) lm_X12_98 ls_X12_in (by decide) (by decide) rfl rfl (Nat.le_of_ble_eq_true rfl) ⟨Nat.le_refl _, Or.inl rfl⟩ dX12_draw_31 ⟨rfl, hV0⟩ (fun r28 V29 hp30 => ?_)
        obtain ⟨y31, rfl, b32, rfl, hE33⟩ := hp30
        replace hT := hT.trans (pf_call_eq hE33)
        change pm_J X 34 [(0, (3, 90)), (1, (0, a1)), (2, (0, a2)), (3, (0, a3)), (4, (0, a4))] [(0, y31)] 118 V0
        refine pm_if_eq (tgt := 49) hC ⟨by omega, by omega⟩ dX12_draw_34 (by decide) (fun c34 => ?_) (fun c34 => ?_)
        · skip
          replace hT := hT.trans (if_pos c34)
          refine pm_iconst (v := (-1)) hC dX12_draw_49 ?_
          exact pm_iret hC hR pm_nar0 ⟨(-1), rfl, ⟨by omega, by omega⟩, hV0, (pm_fs.rf (cs := [101, 110, 111, 112]) (fs := [25, 42, 43, 44, 45, 46, 47, 48, 49, 51, 57]) (V := V0)), hn_pm_h3, hT⟩ dX12_draw_50
        · skip
          replace hT := hT.trans (if_neg c34)
          refine pm_aload_n hC 0 (by decide) dX12_draw_37 rfl ?_
          refine pm_getf (v := y4) hC 90 fl_X12_235 rfl rfl (by decide) rfl e5 dX12_draw_38 ?_
          refine pm_iload hC 4 dX12_draw_41 rfl ?_
          refine pm_iadd hC dX12_draw_43 ?_
          refine pm_bipush (v := 60) hC dX12_draw_44 (by decide) ?_
          refine pm_icmp_le (tgt := 51) hC ⟨by omega, by omega⟩ ⟨by decide, by decide⟩ dX12_draw_46 (by decide) (fun c35 => ?_) (fun c35 => ?_)
          · skip
            replace hT := hT.trans (if_pos c35)
            refine pm_aload_n hC 0 (by decide) dX12_draw_51 rfl ?_
            refine pm_iload_n hC 3 dX12_draw_52 rfl ?_
            refine pm_i2l hC ⟨by omega, by omega⟩ dX12_draw_53 ?_
            refine pm_putf hC 90 fl_X12_464 rfl rfl rfl (by decide) rfl trivial dX12_draw_54 ?_
            refine pm_iconst (v := 0) hC dX12_draw_57 ?_
            refine pm_istore (lv' := [(5, (0, 0)), (0, (3, 90)), (1, (0, a1)), (2, (0, a2)), (3, (0, a3)), (4, (0, a4))]) hC dX12_draw_58 (by decide) rfl ?_
            have hV38 := (hV0.put 90 57 (x := a3) (lo := (-9223372036854775808)) (hi := 9223372036854775807) rfl ⟨by omega, by omega⟩)
            have hF39 := ((pm_fs.rf (cs := [101, 110, 111, 112]) (fs := [25, 42, 43, 44, 45, 46, 47, 48, 49, 51, 57]) (V := V0)).upf 57 a3 rfl)
            obtain ⟨V36, hv37⟩ : ∃ V, V = (pm_up V0 90 57 a3) := ⟨_, rfl⟩
            rw [← hv37] at hV38 hF39
            rw [← hv37]
            replace hT := hT.trans (pf_let_eq hv37.symm)
            have e40 : V36 90 16 = y1 := by rw [hv37]; exact e2
            have e41 : V36 90 25 = y4 := by rw [hv37]; exact e5
            have e42 : V36 90 57 = a3 := by rw [hv37]; rfl
            have hp43 : pm_h1 V36 := by rw [hv37]; exact (pm_h1.fr hn_pm_h1 rfl rfl)
            have hp44 : pm_h2 V36 := by rw [hv37]; exact (pm_h2.fr hn_pm_h2 rfl rfl rfl)
            have hp45 : pm_h3 V36 := by rw [hv37]; exact (pm_h3.fr hn_pm_h3 rfl rfl rfl)
            obtain ⟨B56, hB57, hT⟩ := pf_loop hT
            have L59 : ∀ (N61 : Nat) (x46 : Int) (V48 : pm_M), (0 ≤ x46 ∧ x46 ≤ 20) → pm_oq pm_qB V48 → pm_fs [101, 110, 111, 112] [25, 42, 43, 44, 45, 46, 47, 48, 49, 51, 57] V0 V48 → V48 90 16 = y1 → pm_h1 V48 → pm_h2 V48 → pm_h3 V48 → (V48 90 25 = y4 + x46) → F_X12_draw a1 a2 a3 a4 V0 = pf_val ((0 : Int), V0) B56 (x46, V48) → (Int.toNat (20 - x46)) = N61 → pm_J X 60 [(0, (3, 90)), (1, (0, a1)), (2, (0, a2)), (3, (0, a3)), (4, (0, a4)), (5, (0, x46))] [] 118 V48 := by
              intro N61
              induction N61 using Nat.strongRecOn with
              | _ N61 ih62 =>
              intro x46 V48 b47 hV49 hF50 e51 hp52 hp53 hp54 hm55 hT hm60
              have hb58 := congrFun hB57 (x46, V48)
              obtain ⟨y63, e64⟩ : ∃ y, V48 90 25 = y := ⟨_, rfl⟩
              have b65 := hV49.get 90 25 (lo := 0) (hi := 60) (by decide) (by decide) rfl
              rw [e64] at b65
              replace hb58 := hb58.trans (pf_let_eq e64)
              refine pm_iload hC 5 dX12_draw_60 rfl ?_
              refine pm_iload hC 4 dX12_draw_62 rfl ?_
              refine pm_icmp_ge (tgt := 255) hC ⟨by omega, by omega⟩ ⟨by omega, by omega⟩ dX12_draw_64 (by decide) (fun c66 => ?_) (fun c66 => ?_)
              · skip
                replace hb58 := hb58.trans (if_pos c66)
                refine pm_aload_n hC 0 (by decide) dX12_draw_255 rfl ?_
                refine pm_getf (v := y63) hC 90 fl_X12_235 rfl rfl (by decide) rfl e64 dX12_draw_256 ?_
                have hT := hT.trans (pf_val_inr hb58)
                exact pm_iret hC hR pm_nar0 ⟨y63, rfl, ⟨by omega, by omega⟩, hV49, hF50, hp54, hT⟩ dX12_draw_259
              · skip
                replace hb58 := hb58.trans (if_neg (Int.not_le.mpr c66))
                refine pm_aload_n hC 0 (by decide) dX12_draw_67 rfl ?_
                refine pm_aload_n hC 0 (by decide) dX12_draw_68 rfl ?_
                refine pm_getf (v := y1) hC 90 fl_X12_220 rfl rfl (by decide) rfl e51 dX12_draw_69 ?_
                refine pm_i2l hC ⟨by omega, by omega⟩ dX12_draw_72 ?_
                refine pm_callV (ci := 12) (as := [(1, y1)]) (st := []) hC 90 (fB_X12_draws y1 ⟨by omega, by omega⟩) lm_X12_476 li_X12_draws (by decide) (by decide) rfl rfl rfl (by decide) rfl rfl (Nat.le_of_ble_eq_true rfl) ⟨Nat.le_refl _, Or.inl rfl⟩ dX12_draw_73 ⟨rfl, hV49⟩ (fun r67 V68 hp69 => ?_)
                obtain ⟨y70, rfl, b71, hV72, hF73, hE74⟩ := hp69
                replace hb58 := hb58.trans (pf_call_eq hE74)
                change pm_J X 76 [(0, (3, 90)), (1, (0, a1)), (2, (0, a2)), (3, (0, a3)), (4, (0, a4)), (5, (0, x46))] [(0, y70)] 118 V68
                have hF75 := pm_fs.tr hF50 hF73 (by decide) (by decide)
                have e76 : V68 90 16 = y1 := by rw [hF73.2 16 (by decide)]; exact e51
                have e77 : V68 90 25 = y63 := by rw [hF73.2 25 (by decide)]; exact e64
                have hp78 : pm_h1 V68 := (pm_h1.fr hp52 (hF73.2 16 (by decide)) (hF73.1 97 (by decide) (by decide)))
                have hp79 : pm_h2 V68 := (pm_h2.fr hp53 (hF73.2 16 (by decide)) (hF73.2 21 (by decide)) (hF73.1 99 (by decide) (by decide)))
                have hp80 : pm_h3 V68 := (pm_h3.fr hp54 (hF73.2 16 (by decide)) (hF73.2 25 (by decide)) (hF73.1 101 (by decide) (by decide)))
                refine pm_istore (lv' := [(6, (0, y70)), (0, (3, 90)), (1, (0, a1)), (2, (0, a2)), (3, (0, a3)), (4, (0, a4)), (5, (0, x46))]) hC dX12_draw_76 (by decide) rfl ?_
                refine pm_aload_n hC 1 (by decide) dX12_draw_78 rfl ?_
                refine pm_aload_n hC 1 (by decide) dX12_draw_79 rfl ?_
                refine pm_getf (v := y1) hC 90 fl_X12_220 rfl rfl (by decide) rfl e76 dX12_draw_80 ?_
                refine pm_i2l hC ⟨by omega, by omega⟩ dX12_draw_83 ?_
                refine pm_callV (ci := 12) (as := [(1, y1)]) (st := []) hC 90 (fB_X12_draws y1 ⟨by omega, by omega⟩) lm_X12_476 li_X12_draws (by decide) (by decide) rfl rfl rfl (by decide) rfl rfl (Nat.le_of_ble_eq_true rfl) ⟨Nat.le_refl _, Or.inl rfl⟩ dX12_draw_84 ⟨rfl, hV72⟩ (fun r81 V82 hp83 => ?_)
                obtain ⟨y84, rfl, b85, hV86, hF87, hE88⟩ := hp83
                replace hb58 := hb58.trans (pf_call_eq hE88)
                change pm_J X 87 [(6, (0, y70)), (0, (3, 90)), (1, (0, a1)), (2, (0, a2)), (3, (0, a3)), (4, (0, a4)), (5, (0, x46))] [(0, y84)] 118 V82
                have hF89 := pm_fs.tr hF75 hF87 (by decide) (by decide)
                have e90 : V82 90 16 = y1 := by rw [hF87.2 16 (by decide)]; exact e76
                have e91 : V82 90 25 = y63 := by rw [hF87.2 25 (by decide)]; exact e77
                have hp92 : pm_h1 V82 := (pm_h1.fr hp78 (hF87.2 16 (by decide)) (hF87.1 97 (by decide) (by decide)))
                have hp93 : pm_h2 V82 := (pm_h2.fr hp79 (hF87.2 16 (by decide)) (hF87.2 21 (by decide)) (hF87.1 99 (by decide) (by decide)))
                have hp94 : pm_h3 V82 := (pm_h3.fr hp80 (hF87.2 16 (by decide)) (hF87.2 25 (by decide)) (hF87.1 101 (by decide) (by decide)))
                refine pm_istore (lv' := [(7, (0, y84)), (6, (0, y70)), (0, (3, 90)), (1, (0, a1)), (2, (0, a2)), (3, (0, a3)), (4, (0, a4)), (5, (0, x46))]) hC dX12_draw_87 (by decide) rfl ?_
                refine pm_aload_n hC 2 (by decide) dX12_draw_89 rfl ?_
                refine pm_ldc2 (v := 10) hC 6087 dX12_draw_90 (by decide +kernel) ?_
                refine pm_callV (ci := 12) (as := [(1, 10)]) (st := []) hC 90 (fB_X12_draws 10 ⟨by decide, by decide⟩) lm_X12_476 li_X12_draws (by decide) (by decide) rfl rfl rfl (by decide) rfl rfl (Nat.le_of_ble_eq_true rfl) ⟨Nat.le_refl _, Or.inl rfl⟩ dX12_draw_93 ⟨rfl, hV86⟩ (fun r95 V96 hp97 => ?_)
                obtain ⟨y98, rfl, b99, hV100, hF101, hE102⟩ := hp97
                replace hb58 := hb58.trans (pf_call_eq hE102)
                change pm_J X 96 [(7, (0, y84)), (6, (0, y70)), (0, (3, 90)), (1, (0, a1)), (2, (0, a2)), (3, (0, a3)), (4, (0, a4)), (5, (0, x46))] [(0, y98)] 118 V96
                have hF103 := pm_fs.tr hF89 hF101 (by decide) (by decide)
                have e104 : V96 90 16 = y1 := by rw [hF101.2 16 (by decide)]; exact e90
                have e105 : V96 90 25 = y63 := by rw [hF101.2 25 (by decide)]; exact e91
                have hp106 : pm_h1 V96 := (pm_h1.fr hp92 (hF101.2 16 (by decide)) (hF101.1 97 (by decide) (by decide)))
                have hp107 : pm_h2 V96 := (pm_h2.fr hp93 (hF101.2 16 (by decide)) (hF101.2 21 (by decide)) (hF101.1 99 (by decide) (by decide)))
                have hp108 : pm_h3 V96 := (pm_h3.fr hp94 (hF101.2 16 (by decide)) (hF101.2 25 (by decide)) (hF101.1 101 (by decide) (by decide)))
                refine pm_istore (lv' := [(8, (0, y98)), (7, (0, y84)), (6, (0, y70)), (0, (3, 90)), (1, (0, a1)), (2, (0, a2)), (3, (0, a3)), (4, (0, a4)), (5, (0, x46))]) hC dX12_draw_96 (by decide) rfl ?_
                refine pm_aload_n hC 3 (by decide) dX12_draw_98 rfl ?_
                refine pm_ldc2 (v := 10) hC 6087 dX12_draw_99 (by decide +kernel) ?_
                refine pm_callV (ci := 12) (as := [(1, 10)]) (st := []) hC 90 (fB_X12_draws 10 ⟨by decide, by decide⟩) lm_X12_476 li_X12_draws (by decide) (by decide) rfl rfl rfl (by decide) rfl rfl (Nat.le_of_ble_eq_true rfl) ⟨Nat.le_refl _, Or.inl rfl⟩ dX12_draw_102 ⟨rfl, hV100⟩ (fun r109 V110 hp111 => ?_)
                obtain ⟨y112, rfl, b113, hV114, hF115, hE116⟩ := hp111
                replace hb58 := hb58.trans (pf_call_eq hE116)
                change pm_J X 105 [(8, (0, y98)), (7, (0, y84)), (6, (0, y70)), (0, (3, 90)), (1, (0, a1)), (2, (0, a2)), (3, (0, a3)), (4, (0, a4)), (5, (0, x46))] [(0, y112)] 118 V110
                have hF117 := pm_fs.tr hF103 hF115 (by decide) (by decide)
                have e118 : V110 90 16 = y1 := by rw [hF115.2 16 (by decide)]; exact e104
                have e119 : V110 90 25 = y63 := by rw [hF115.2 25 (by decide)]; exact e105
                have hp120 : pm_h1 V110 := (pm_h1.fr hp106 (hF115.2 16 (by decide)) (hF115.1 97 (by decide) (by decide)))
                have hp121 : pm_h2 V110 := (pm_h2.fr hp107 (hF115.2 16 (by decide)) (hF115.2 21 (by decide)) (hF115.1 99 (by decide) (by decide)))
                have hp122 : pm_h3 V110 := (pm_h3.fr hp108 (hF115.2 16 (by decide)) (hF115.2 25 (by decide)) (hF115.1 101 (by decide) (by decide)))
                refine pm_istore (lv' := [(9, (0, y112)), (8, (0, y98)), (7, (0, y84)), (6, (0, y70)), (0, (3, 90)), (1, (0, a1)), (2, (0, a2)), (3, (0, a3)), (4, (0, a4)), (5, (0, x46))]) hC dX12_draw_105 (by decide) rfl ?_
                refine pm_aload_n hC 4 (by decide) dX12_draw_107 rfl ?_
                refine pm_ldc2 (v := 199) hC 8032 dX12_draw_108 (by decide +kernel) ?_
                refine pm_callV (ci := 12) (as := [(1, 199)]) (st := []) hC 90 (fB_X12_draws 199 ⟨by decide, by decide⟩) lm_X12_476 li_X12_draws (by decide) (by decide) rfl rfl rfl (by decide) rfl rfl (Nat.le_of_ble_eq_true rfl) ⟨Nat.le_refl _, Or.inl rfl⟩ dX12_draw_111 ⟨rfl, hV114⟩ (fun r123 V124 hp125 => ?_)
                obtain ⟨y126, rfl, b127, hV128, hF129, hE130⟩ := hp125
                replace hb58 := hb58.trans (pf_call_eq hE130)
                change pm_J X 114 [(9, (0, y112)), (8, (0, y98)), (7, (0, y84)), (6, (0, y70)), (0, (3, 90)), (1, (0, a1)), (2, (0, a2)), (3, (0, a3)), (4, (0, a4)), (5, (0, x46))] [(0, y126)] 118 V124
                have hF131 := pm_fs.tr hF117 hF129 (by decide) (by decide)
                have e132 : V124 90 16 = y1 := by rw [hF129.2 16 (by decide)]; exact e118
                have e133 : V124 90 25 = y63 := by rw [hF129.2 25 (by decide)]; exact e119
                have hp134 : pm_h1 V124 := (pm_h1.fr hp120 (hF129.2 16 (by decide)) (hF129.1 97 (by decide) (by decide)))
                have hp135 : pm_h2 V124 := (pm_h2.fr hp121 (hF129.2 16 (by decide)) (hF129.2 21 (by decide)) (hF129.1 99 (by decide) (by decide)))
                have hp136 : pm_h3 V124 := (pm_h3.fr hp122 (hF129.2 16 (by decide)) (hF129.2 25 (by decide)) (hF129.1 101 (by decide) (by decide)))
                refine pm_bipush (v := 99) hC dX12_draw_114 (by decide) ?_
                refine pm_isub hC dX12_draw_116 ?_
                refine pm_istore (lv' := [(10, (0, (y126 - 99))), (9, (0, y112)), (8, (0, y98)), (7, (0, y84)), (6, (0, y70)), (0, (3, 90)), (1, (0, a1)), (2, (0, a2)), (3, (0, a3)), (4, (0, a4)), (5, (0, x46))]) hC dX12_draw_117 (by decide) rfl ?_
                refine pm_bipush (v := 100) hC dX12_draw_119 (by decide) ?_
                refine pm_iload_n hC 7 dX12_draw_121 rfl ?_
                refine pm_imul hC dX12_draw_122 ?_
                refine pm_bipush (v := 10) hC dX12_draw_123 (by decide) ?_
                refine pm_iload hC 4 dX12_draw_125 rfl ?_
                refine pm_imul hC dX12_draw_127 ?_
                refine pm_iadd hC dX12_draw_128 ?_
                refine pm_iload hC 3 dX12_draw_129 rfl ?_
                refine pm_iadd hC dX12_draw_131 ?_
                refine pm_istore (lv' := [(11, (0, (((100 * a2) + (10 * y70)) + y84))), (10, (0, (y126 - 99))), (9, (0, y112)), (8, (0, y98)), (7, (0, y84)), (6, (0, y70)), (0, (3, 90)), (1, (0, a1)), (2, (0, a2)), (3, (0, a3)), (4, (0, a4)), (5, (0, x46))]) hC dX12_draw_132 (by decide) rfl ?_
                refine pm_aload_n hC 6 (by decide) dX12_draw_134 rfl ?_
                refine pm_iload hC 0 dX12_draw_135 rfl ?_
                refine pm_bipush (v := 10) hC dX12_draw_137 (by decide) ?_
                refine pm_iload hC 3 dX12_draw_139 rfl ?_
                refine pm_imul hC dX12_draw_141 ?_
                refine pm_iload hC 2 dX12_draw_142 rfl ?_
                refine pm_iadd hC dX12_draw_144 ?_
                refine pm_iload hC 1 dX12_draw_145 rfl ?_
                refine pm_callV (ci := 12) (as := [(0, (((100 * a2) + (10 * y70)) + y84)), (0, ((10 * y98) + y112)), (0, (y126 - 99))]) (st := []) hC 90 (fB_X12_works (((100 * a2) + (10 * y70)) + y84) ((10 * y98) + y112) (y126 - 99) ⟨by omega, by omega⟩ ⟨by omega, by omega⟩ ⟨by omega, by omega⟩ (by omega)) lm_X12_376 li_X12_works (by decide) (by decide) rfl rfl rfl (by decide) rfl rfl (Nat.le_of_ble_eq_true rfl) ⟨Nat.le_refl _, Or.inl rfl⟩ dX12_draw_147 ⟨rfl, hV128, (show ((((100 * a2) + (10 * y70)) + y84)) % 10 < V124 90 16 by omega), (show ((((100 * a2) + (10 * y70)) + y84)) / 10 % 10 < V124 90 16 by omega), hp134⟩ (fun r137 V138 hp139 => ?_)
                obtain ⟨rfl, hV140, hF141, hq142, hq143, hg144, hg145, hE146⟩ := hp139
                replace hb58 := hb58.trans (pf_call_eq hE146)
                change pm_J X 150 [(11, (0, (((100 * a2) + (10 * y70)) + y84))), (10, (0, (y126 - 99))), (9, (0, y112)), (8, (0, y98)), (7, (0, y84)), (6, (0, y70)), (0, (3, 90)), (1, (0, a1)), (2, (0, a2)), (3, (0, a3)), (4, (0, a4)), (5, (0, x46))] [] 118 V138
                have hF147 := pm_fs.tr hF131 hF141 (by decide) (by decide)
                have e148 : V138 90 16 = y1 := by rw [hF141.2 16 (by decide)]; exact e132
                have e149 : V138 90 25 = y63 := by rw [hF141.2 25 (by decide)]; exact e133
                have hp150 : pm_h1 V138 := (pm_h1.fr hp134 (hF141.2 16 (by decide)) (hF141.1 97 (by decide) (by decide)))
                have hp151 : pm_h2 V138 := (pm_h2.fr hp135 (hF141.2 16 (by decide)) (hF141.2 21 (by decide)) (hF141.1 99 (by decide) (by decide)))
                have hp152 : pm_h3 V138 := (pm_h3.fr hp136 (hF141.2 16 (by decide)) (hF141.2 25 (by decide)) (hF141.1 101 (by decide) (by decide)))
                obtain ⟨z153, ez154⟩ : ∃ z, V138 90 42 = z := ⟨_, rfl⟩
                rw [ez154] at hq142
                replace hb58 := hb58.trans (pf_let_eq ez154)
                obtain ⟨z155, ez156⟩ : ∃ z, V138 90 43 = z := ⟨_, rfl⟩
                rw [ez156] at hq143
                replace hb58 := hb58.trans (pf_let_eq ez156)
                refine pm_aload_n hC 6 (by decide) dX12_draw_150 rfl ?_
                refine pm_iload_n hC 7 dX12_draw_151 rfl ?_
                have q160 : 1 ≤ V138 90 42 ∧ V138 90 42 ≤ 171 := by (have e : V138 90 42 = z153 := ez154); rw [e]; exact ⟨by omega, by omega⟩
                have q161 : 1 ≤ V138 90 43 ∧ V138 90 43 ≤ 171 := by (have e : V138 90 43 = z155 := ez156); rw [e]; exact ⟨by omega, by omega⟩
                refine pm_callV (ci := 12) (as := [(0, a1)]) (st := []) hC 90 (fB_X12_weighs a1 ⟨by omega, by omega⟩) lm_X12_380 li_X12_weighs (by decide) (by decide) rfl rfl rfl (by decide) rfl rfl (Nat.le_of_ble_eq_true rfl) ⟨Nat.le_refl _, Or.inl rfl⟩ dX12_draw_152 ⟨rfl, hV140, q160, q161, hg144, hp150, hp151, hg145⟩ (fun r157 V158 hp159 => ?_)
                obtain ⟨rfl, hV162, hF163, hg164, hE165⟩ := hp159
                replace hb58 := hb58.trans (pf_call_eq hE165)
                change pm_J X 155 [(11, (0, (((100 * a2) + (10 * y70)) + y84))), (10, (0, (y126 - 99))), (9, (0, y112)), (8, (0, y98)), (7, (0, y84)), (6, (0, y70)), (0, (3, 90)), (1, (0, a1)), (2, (0, a2)), (3, (0, a3)), (4, (0, a4)), (5, (0, x46))] [] 118 V158
                have hF166 := pm_fs.tr hF147 hF163 (by decide) (by decide)
                have e167 : V158 90 16 = y1 := by rw [hF163.2 16 (by decide)]; exact e148
                have e168 : V158 90 25 = y63 := by rw [hF163.2 25 (by decide)]; exact e149
                have e169 : V158 90 42 = z153 := by rw [hF163.2 42 (by decide)]; exact ez154
                have e170 : V158 90 43 = z155 := by rw [hF163.2 43 (by decide)]; exact ez156
                have hp171 : pm_h1 V158 := (pm_h1.fr hp150 (hF163.2 16 (by decide)) (hF163.1 97 (by decide) (by decide)))
                have hp172 : pm_h2 V158 := (pm_h2.fr hp151 (hF163.2 16 (by decide)) (hF163.2 21 (by decide)) (hF163.1 99 (by decide) (by decide)))
                have hp173 : pm_h3 V158 := (pm_h3.fr hp152 (hF163.2 16 (by decide)) (hF163.2 25 (by decide)) (hF163.1 101 (by decide) (by decide)))
                have hp174 : pm_w1 V158 := (pm_w1.fr hg144 (hF163.2 16 (by decide)) (hF163.2 48 (by decide)) (hF163.2 49 (by decide)) (hF163.1 110 (by decide) (by decide)) (hF163.1 111 (by decide) (by decide)))
                have hp175 : pm_w3 V158 := (pm_w3.fr hg145 (hF163.2 16 (by decide)) (hF163.2 46 (by decide)) (hF163.1 110 (by decide) (by decide)) (hF163.1 111 (by decide) (by decide)))
                refine pm_aload_n hC 6 (by decide) dX12_draw_155 rfl ?_
                refine pm_aload_n hC 6 (by decide) dX12_draw_156 rfl ?_
                obtain ⟨y176, e177⟩ : ∃ y, V158 90 51 = y := ⟨_, rfl⟩
                have b178 := hV162.get 90 51 (lo := 0) (hi := 720000000) (by decide) (by decide) rfl
                rw [e177] at b178
                replace hb58 := hb58.trans (pf_let_eq e177)
                refine pm_getf (v := y176) hC 90 fl_X12_362 rfl rfl (by decide) rfl e177 dX12_draw_157 ?_
                have hwp179 := hg164.1
                rw [(show V158 90 51 = y176 from e177)] at hwp179
                refine pm_callV (ci := 12) (as := [(1, y176)]) (st := []) hC 90 (fB_X12_draws y176 ⟨by omega, by omega⟩) lm_X12_476 li_X12_draws (by decide) (by decide) rfl rfl rfl (by decide) rfl rfl (Nat.le_of_ble_eq_true rfl) ⟨Nat.le_refl _, Or.inl rfl⟩ dX12_draw_160 ⟨rfl, hV162⟩ (fun r180 V181 hp182 => ?_)
                obtain ⟨y183, rfl, b184, hV185, hF186, hE187⟩ := hp182
                replace hb58 := hb58.trans (pf_call_eq hE187)
                change pm_J X 163 [(11, (0, (((100 * a2) + (10 * y70)) + y84))), (10, (0, (y126 - 99))), (9, (0, y112)), (8, (0, y98)), (7, (0, y84)), (6, (0, y70)), (0, (3, 90)), (1, (0, a1)), (2, (0, a2)), (3, (0, a3)), (4, (0, a4)), (5, (0, x46))] [(0, y183)] 118 V181
                have hF188 := pm_fs.tr hF166 hF186 (by decide) (by decide)
                have e189 : V181 90 16 = y1 := by rw [hF186.2 16 (by decide)]; exact e167
                have e190 : V181 90 25 = y63 := by rw [hF186.2 25 (by decide)]; exact e168
                have e191 : V181 90 42 = z153 := by rw [hF186.2 42 (by decide)]; exact e169
                have e192 : V181 90 43 = z155 := by rw [hF186.2 43 (by decide)]; exact e170
                have e193 : V181 90 51 = y176 := by rw [hF186.2 51 (by decide)]; exact e177
                have hp194 : pm_h1 V181 := (pm_h1.fr hp171 (hF186.2 16 (by decide)) (hF186.1 97 (by decide) (by decide)))
                have hp195 : pm_h2 V181 := (pm_h2.fr hp172 (hF186.2 16 (by decide)) (hF186.2 21 (by decide)) (hF186.1 99 (by decide) (by decide)))
                have hp196 : pm_h3 V181 := (pm_h3.fr hp173 (hF186.2 16 (by decide)) (hF186.2 25 (by decide)) (hF186.1 101 (by decide) (by decide)))
                have hp197 : pm_w1 V181 := (pm_w1.fr hp174 (hF186.2 16 (by decide)) (hF186.2 48 (by decide)) (hF186.2 49 (by decide)) (hF186.1 110 (by decide) (by decide)) (hF186.1 111 (by decide) (by decide)))
                have hp198 : pm_w3 V181 := (pm_w3.fr hp175 (hF186.2 16 (by decide)) (hF186.2 46 (by decide)) (hF186.1 110 (by decide) (by decide)) (hF186.1 111 (by decide) (by decide)))
                have hp199 : pm_w2 V181 := (pm_w2.fr hg164 (hF186.2 16 (by decide)) (hF186.2 51 (by decide)) (hF186.1 112 (by decide) (by decide)))
                refine pm_i2l hC ⟨by omega, by omega⟩ dX12_draw_163 ?_
                refine pm_lstore (lv' := [(12, (1, y183)), (11, (0, (((100 * a2) + (10 * y70)) + y84))), (10, (0, (y126 - 99))), (9, (0, y112)), (8, (0, y98)), (7, (0, y84)), (6, (0, y70)), (0, (3, 90)), (1, (0, a1)), (2, (0, a2)), (3, (0, a3)), (4, (0, a4)), (5, (0, x46))]) hC dX12_draw_164 (by decide) rfl ?_
                have hs0 : pm_sum (V181 112) ((0 : Int)).toNat = 0 := rfl
                have hw20 := hp199
                obtain ⟨hw21, hw22⟩ := hw20
                rw [e193] at hw21
                rw [e193, e189] at hw22
                refine pm_iconst (v := 0) hC dX12_draw_166 ?_
                refine pm_istore (lv' := [(14, (0, 0)), (12, (1, y183)), (11, (0, (((100 * a2) + (10 * y70)) + y84))), (10, (0, (y126 - 99))), (9, (0, y112)), (8, (0, y98)), (7, (0, y84)), (6, (0, y70)), (0, (3, 90)), (1, (0, a1)), (2, (0, a2)), (3, (0, a3)), (4, (0, a4)), (5, (0, x46))]) hC dX12_draw_167 (by decide) rfl ?_
                obtain ⟨B205, hB206, hb58⟩ := pf_loop hb58
                have L208 : ∀ (N210 : Nat) (x200 : Int) (x202 : Int), (0 ≤ x200 ∧ x200 ≤ 720000000) → (0 ≤ x202 ∧ x202 ≤ 9) → (x200 + pm_sum (V181 112) ((x202) : Int).toNat < y176) → B56 (x46, V48) = pf_val (.inr ((0 : Int), V0)) B205 (x200, x202) → (Int.toNat (9 - x202)) = N210 → pm_J X 169 [(0, (3, 90)), (1, (0, a1)), (2, (0, a2)), (3, (0, a3)), (4, (0, a4)), (5, (0, x46)), (6, (0, y70)), (7, (0, y84)), (8, (0, y98)), (9, (0, y112)), (10, (0, (y126 - 99))), (11, (0, (((100 * a2) + (10 * y70)) + y84))), (12, (1, x200)), (14, (0, x202))] [] 118 V181 := by
                  intro N210
                  induction N210 using Nat.strongRecOn with
                  | _ N210 ih211 =>
                  intro x200 x202 b201 b203 b204 hb58 hm209
                  have hb207 := congrFun hB206 (x200, x202)
                  have hlt : x202 < y1 := by
                    rcases Int.lt_or_le x202 y1 with q | q
                    · exact q
                    · have q1 := pm_sum_mono (f := V181 112) (n := (y1 : Int).toNat) (m := (x202 : Int).toNat) (by omega) (fun j hj => (hV185.get 112 j (lo := 0) (hi := 80000000) (t := 0) (by decide) (show j < 9 by omega) rfl).1)
                      omega
                  refine pm_lload hC 12 dX12_draw_169 rfl ?_
                  refine pm_aload_n hC 0 (by decide) dX12_draw_171 rfl ?_
                  have e212 : V181 90 50 = 112 := hV185.one 90 50 (by decide) (by decide) rfl
                  refine pm_getf (v := 112) hC 90 fl_X12_76 rfl rfl (by decide) rfl e212 dX12_draw_172 ?_
                  refine pm_iload hC 13 dX12_draw_175 rfl ?_
                  obtain ⟨y213, e214⟩ : ∃ y, V181 112 (x202 : Int).toNat = y := ⟨_, rfl⟩
                  replace hb207 := hb207.trans (pf_let_eq e214)
                  have b215 := hV185.get 112 (x202 : Int).toNat (lo := 0) (hi := 80000000) (t := 0) (by decide) (show _ < 9 by omega) rfl
                  rw [e214] at b215
                  refine pm_laload (len := 9) (v := y213) hC 112 rfl rfl (by decide) ⟨by omega, by omega⟩ (by decide) e214 dX12_draw_177 ?_
                  refine pm_lcmp hC ⟨by omega, by omega⟩ ⟨by omega, by omega⟩ dX12_draw_178 (fun y216 b217 => ?_)
                  replace hb207 := hb207.trans (pf_let_eq (pm_cmp_u b217))
                  refine pm_if_lt (tgt := 200) hC ⟨by omega, by omega⟩ dX12_draw_179 (by decide) (fun c218 => ?_) (fun c218 => ?_)
                  · skip
                    replace hb207 := hb207.trans (if_pos c218)
                    refine pm_aload_n hC 0 (by decide) dX12_draw_200 rfl ?_
                    refine pm_ldc2 (v := 1000) hC 7092 dX12_draw_201 (by decide +kernel) ?_
                    refine pm_callV (ci := 12) (as := [(1, 1000)]) (st := []) hC 90 (fB_X12_draws 1000 ⟨by decide, by decide⟩) lm_X12_476 li_X12_draws (by decide) (by decide) rfl rfl rfl (by decide) rfl rfl (Nat.le_of_ble_eq_true rfl) ⟨Nat.le_refl _, Or.inl rfl⟩ dX12_draw_204 ⟨rfl, hV185⟩ (fun r219 V220 hp221 => ?_)
                    obtain ⟨y222, rfl, b223, hV224, hF225, hE226⟩ := hp221
                    replace hb207 := hb207.trans (pf_call_eq hE226)
                    change pm_J X 207 [(0, (3, 90)), (1, (0, a1)), (2, (0, a2)), (3, (0, a3)), (4, (0, a4)), (5, (0, x46)), (6, (0, y70)), (7, (0, y84)), (8, (0, y98)), (9, (0, y112)), (10, (0, (y126 - 99))), (11, (0, (((100 * a2) + (10 * y70)) + y84))), (12, (1, x200)), (14, (0, x202))] [(0, y222)] 118 V220
                    have hF227 := pm_fs.tr hF188 hF225 (by decide) (by decide)
                    have e228 : V220 90 16 = y1 := by rw [hF225.2 16 (by decide)]; exact e189
                    have e229 : V220 90 25 = y63 := by rw [hF225.2 25 (by decide)]; exact e190
                    have e230 : V220 90 42 = z153 := by rw [hF225.2 42 (by decide)]; exact e191
                    have e231 : V220 90 43 = z155 := by rw [hF225.2 43 (by decide)]; exact e192
                    have e232 : V220 90 51 = y176 := by rw [hF225.2 51 (by decide)]; exact e193
                    have e233 : V220 90 50 = 112 := by rw [hF225.2 50 (by decide)]; exact e212
                    have hp234 : pm_h1 V220 := (pm_h1.fr hp194 (hF225.2 16 (by decide)) (hF225.1 97 (by decide) (by decide)))
                    have hp235 : pm_h2 V220 := (pm_h2.fr hp195 (hF225.2 16 (by decide)) (hF225.2 21 (by decide)) (hF225.1 99 (by decide) (by decide)))
                    have hp236 : pm_h3 V220 := (pm_h3.fr hp196 (hF225.2 16 (by decide)) (hF225.2 25 (by decide)) (hF225.1 101 (by decide) (by decide)))
                    have hp237 : pm_w1 V220 := (pm_w1.fr hp197 (hF225.2 16 (by decide)) (hF225.2 48 (by decide)) (hF225.2 49 (by decide)) (hF225.1 110 (by decide) (by decide)) (hF225.1 111 (by decide) (by decide)))
                    have hp238 : pm_w3 V220 := (pm_w3.fr hp198 (hF225.2 16 (by decide)) (hF225.2 46 (by decide)) (hF225.1 110 (by decide) (by decide)) (hF225.1 111 (by decide) (by decide)))
                    have hp239 : pm_w2 V220 := (pm_w2.fr hp199 (hF225.2 16 (by decide)) (hF225.2 51 (by decide)) (hF225.1 112 (by decide) (by decide)))
                    refine pm_aload_n hC 0 (by decide) dX12_draw_207 rfl ?_
                    refine pm_callV (ci := 12) (as := []) (st := [(0, y222)]) hC 90 fB_X12_noticedNow lm_X12_396 li_X12_noticedNow (by decide) (by decide) rfl rfl rfl (by decide) rfl rfl (Nat.le_of_ble_eq_true rfl) ⟨Nat.le_refl _, Or.inl rfl⟩ dX12_draw_208 ⟨rfl, hV224⟩ (fun r240 V241 hp242 => ?_)
                    obtain ⟨y243, rfl, b244, rfl, hE245⟩ := hp242
                    replace hb207 := hb207.trans (pf_call_eq hE245)
                    change pm_J X 211 [(0, (3, 90)), (1, (0, a1)), (2, (0, a2)), (3, (0, a3)), (4, (0, a4)), (5, (0, x46)), (6, (0, y70)), (7, (0, y84)), (8, (0, y98)), (9, (0, y112)), (10, (0, (y126 - 99))), (11, (0, (((100 * a2) + (10 * y70)) + y84))), (12, (1, x200)), (14, (0, x202))] [(0, y243), (0, y222)] 118 V220
                    refine pm_icmp_ge (tgt := 218) hC ⟨by omega, by omega⟩ ⟨by omega, by omega⟩ dX12_draw_211 (by decide) (fun c246 => ?_) (fun c246 => ?_)
                    · skip
                      replace hb207 := hb207.trans (if_pos c246)
                      refine pm_iconst (v := 0) hC dX12_draw_218 ?_
                      refine pm_istore (lv' := [(15, (0, 0)), (0, (3, 90)), (1, (0, a1)), (2, (0, a2)), (3, (0, a3)), (4, (0, a4)), (5, (0, x46)), (6, (0, y70)), (7, (0, y84)), (8, (0, y98)), (9, (0, y112)), (10, (0, (y126 - 99))), (11, (0, (((100 * a2) + (10 * y70)) + y84))), (12, (1, x200)), (14, (0, x202))]) hC dX12_draw_219 (by decide) rfl ?_
                      refine pm_aload_n hC 1 (by decide) dX12_draw_221 rfl ?_
                      refine pm_iload hC 12 dX12_draw_222 rfl ?_
                      refine pm_bipush (v := 10) hC dX12_draw_224 (by decide) ?_
                      refine pm_iload hC 9 dX12_draw_226 rfl ?_
                      refine pm_imul hC dX12_draw_228 ?_
                      refine pm_iload hC 10 dX12_draw_229 rfl ?_
                      refine pm_iadd hC dX12_draw_231 ?_
                      refine pm_iload hC 11 dX12_draw_232 rfl ?_
                      refine pm_iload hC 14 dX12_draw_234 rfl ?_
                      refine pm_iload hC 0 dX12_draw_236 rfl ?_
                      refine pm_if_eq (tgt := 245) hC ⟨by decide, by decide⟩ dX12_draw_238 (by decide) (fun c247 => ?_) (fun c247 => ?_)
                      · skip
                        refine pm_iconst (v := 0) hC dX12_draw_245 ?_
                        clear hs0 hw22 hw20
                        refine pm_callV (ci := 12) (as := [(0, (((100 * a2) + (10 * y70)) + y84)), (0, ((10 * y98) + y112)), (0, (y126 - 99)), (0, x202), (0, 0)]) (st := []) hC 90 (fB_X12_keepsAnswer (((100 * a2) + (10 * y70)) + y84) ((10 * y98) + y112) (y126 - 99) x202 0 ⟨by omega, by omega⟩ ⟨by omega, by omega⟩ ⟨by omega, by omega⟩ ⟨by omega, by omega⟩ ⟨by decide, by decide⟩ (by omega)) lm_X12_399 li_X12_keepsAnswer (by decide) (by decide) rfl rfl rfl (by decide) rfl rfl (Nat.le_of_ble_eq_true rfl) ⟨Nat.le_refl _, Or.inl rfl⟩ dX12_draw_246 ⟨rfl, hV224, (show ((((100 * a2) + (10 * y70)) + y84)) % 10 < V220 90 16 by omega), (show ((((100 * a2) + (10 * y70)) + y84)) / 10 % 10 < V220 90 16 by omega), (show (x202) < V220 90 16 by omega), (show V220 90 25 ≤ 59 by omega), hp236⟩ (fun r248 V249 hp250 => ?_)
                        obtain ⟨rfl, hV251, hF252, hg253, hxp254, hE255⟩ := hp250
                        replace hb207 := hb207.trans (pf_call_eq hE255)
                        change pm_J X 249 [(15, (0, 0)), (0, (3, 90)), (1, (0, a1)), (2, (0, a2)), (3, (0, a3)), (4, (0, a4)), (5, (0, x46)), (6, (0, y70)), (7, (0, y84)), (8, (0, y98)), (9, (0, y112)), (10, (0, (y126 - 99))), (11, (0, (((100 * a2) + (10 * y70)) + y84))), (12, (1, x200)), (14, (0, x202))] [] 118 V249
                        have hF256 := pm_fs.tr hF227 hF252 (by decide) (by decide)
                        have e257 : V249 90 16 = y1 := by rw [hF252.2 16 (by decide)]; exact e228
                        have e258 : V249 90 42 = z153 := by rw [hF252.2 42 (by decide)]; exact e230
                        have e259 : V249 90 43 = z155 := by rw [hF252.2 43 (by decide)]; exact e231
                        have e260 : V249 90 51 = y176 := by rw [hF252.2 51 (by decide)]; exact e232
                        have e261 : V249 90 50 = 112 := by rw [hF252.2 50 (by decide)]; exact e233
                        have hp262 : pm_h1 V249 := (pm_h1.fr hp234 (hF252.2 16 (by decide)) (hF252.1 97 (by decide) (by decide)))
                        have hp263 : pm_h2 V249 := (pm_h2.fr hp235 (hF252.2 16 (by decide)) (hF252.2 21 (by decide)) (hF252.1 99 (by decide) (by decide)))
                        have hp264 : pm_w1 V249 := (pm_w1.fr hp237 (hF252.2 16 (by decide)) (hF252.2 48 (by decide)) (hF252.2 49 (by decide)) (hF252.1 110 (by decide) (by decide)) (hF252.1 111 (by decide) (by decide)))
                        have hp265 : pm_w3 V249 := (pm_w3.fr hp238 (hF252.2 16 (by decide)) (hF252.2 46 (by decide)) (hF252.1 110 (by decide) (by decide)) (hF252.1 111 (by decide) (by decide)))
                        have hp266 : pm_w2 V249 := (pm_w2.fr hp239 (hF252.2 16 (by decide)) (hF252.2 51 (by decide)) (hF252.1 112 (by decide) (by decide)))
                        obtain ⟨x267, ei268⟩ : ∃ y : Int, x46 + 1 = y := ⟨_, rfl⟩
                        replace hb207 := hb207.trans (pf_let_eq ei268)
                        refine pm_iinc (y := x267) (lv' := [(5, (0, x267)), (15, (0, 0)), (0, (3, 90)), (1, (0, a1)), (2, (0, a2)), (3, (0, a3)), (4, (0, a4)), (6, (0, y70)), (7, (0, y84)), (8, (0, y98)), (9, (0, y112)), (10, (0, (y126 - 99))), (11, (0, (((100 * a2) + (10 * y70)) + y84))), (12, (1, x200)), (14, (0, x202))]) hC 6 dX12_draw_249 (by decide) rfl ei268 rfl ?_
                        refine pm_goto (tgt := 60) hC dX12_draw_252 (by decide) ?_
                        obtain ⟨y269, e270⟩ : ∃ y, V249 90 25 = y := ⟨_, rfl⟩
                        have b271 := hV251.get 90 25 (lo := 0) (hi := 60) (by decide) (by decide) rfl
                        rw [e270] at b271
                        replace hb207 := hb207.trans (pf_let_eq e270)
                        have hb58 := hb58.trans (pf_val_inr hb207)
                        refine pm_lvsub [2, 3, 4, 5, 6, 0] (lv' := [(0, (3, 90)), (1, (0, a1)), (2, (0, a2)), (3, (0, a3)), (4, (0, a4)), (5, (0, x267))]) rfl ?_
                        exact ih62 _ (by omega) x267 V249 ⟨by omega, by omega⟩ hV251 hF256 e257 hp262 hp263 hg253 (by (have e : V249 90 25 = y269 := e270); rw [e]; omega) (hT.trans (pf_val_inl hb58)) rfl
                      · skip
                        exfalso; omega
                    · skip
                      replace hb207 := hb207.trans (if_neg (Int.not_le.mpr c246))
                      refine pm_iconst (v := 1) hC dX12_draw_214 ?_
                      refine pm_goto (tgt := 219) hC dX12_draw_215 (by decide) ?_
                      refine pm_istore (lv' := [(15, (0, 1)), (0, (3, 90)), (1, (0, a1)), (2, (0, a2)), (3, (0, a3)), (4, (0, a4)), (5, (0, x46)), (6, (0, y70)), (7, (0, y84)), (8, (0, y98)), (9, (0, y112)), (10, (0, (y126 - 99))), (11, (0, (((100 * a2) + (10 * y70)) + y84))), (12, (1, x200)), (14, (0, x202))]) hC dX12_draw_219 (by decide) rfl ?_
                      refine pm_aload_n hC 1 (by decide) dX12_draw_221 rfl ?_
                      refine pm_iload hC 12 dX12_draw_222 rfl ?_
                      refine pm_bipush (v := 10) hC dX12_draw_224 (by decide) ?_
                      refine pm_iload hC 9 dX12_draw_226 rfl ?_
                      refine pm_imul hC dX12_draw_228 ?_
                      refine pm_iload hC 10 dX12_draw_229 rfl ?_
                      refine pm_iadd hC dX12_draw_231 ?_
                      refine pm_iload hC 11 dX12_draw_232 rfl ?_
                      refine pm_iload hC 14 dX12_draw_234 rfl ?_
                      refine pm_iload hC 0 dX12_draw_236 rfl ?_
                      refine pm_if_eq (tgt := 245) hC ⟨by decide, by decide⟩ dX12_draw_238 (by decide) (fun c272 => ?_) (fun c272 => ?_)
                      · skip
                        exfalso; omega
                      · skip
                        refine pm_iconst (v := 1) hC dX12_draw_241 ?_
                        refine pm_goto (tgt := 246) hC dX12_draw_242 (by decide) ?_
                        clear hs0 hw22 hw20
                        refine pm_callV (ci := 12) (as := [(0, (((100 * a2) + (10 * y70)) + y84)), (0, ((10 * y98) + y112)), (0, (y126 - 99)), (0, x202), (0, 1)]) (st := []) hC 90 (fB_X12_keepsAnswer (((100 * a2) + (10 * y70)) + y84) ((10 * y98) + y112) (y126 - 99) x202 1 ⟨by omega, by omega⟩ ⟨by omega, by omega⟩ ⟨by omega, by omega⟩ ⟨by omega, by omega⟩ ⟨by decide, by decide⟩ (by omega)) lm_X12_399 li_X12_keepsAnswer (by decide) (by decide) rfl rfl rfl (by decide) rfl rfl (Nat.le_of_ble_eq_true rfl) ⟨Nat.le_refl _, Or.inl rfl⟩ dX12_draw_246 ⟨rfl, hV224, (show ((((100 * a2) + (10 * y70)) + y84)) % 10 < V220 90 16 by omega), (show ((((100 * a2) + (10 * y70)) + y84)) / 10 % 10 < V220 90 16 by omega), (show (x202) < V220 90 16 by omega), (show V220 90 25 ≤ 59 by omega), hp236⟩ (fun r273 V274 hp275 => ?_)
                        obtain ⟨rfl, hV276, hF277, hg278, hxp279, hE280⟩ := hp275
                        replace hb207 := hb207.trans (pf_call_eq hE280)
                        change pm_J X 249 [(15, (0, 1)), (0, (3, 90)), (1, (0, a1)), (2, (0, a2)), (3, (0, a3)), (4, (0, a4)), (5, (0, x46)), (6, (0, y70)), (7, (0, y84)), (8, (0, y98)), (9, (0, y112)), (10, (0, (y126 - 99))), (11, (0, (((100 * a2) + (10 * y70)) + y84))), (12, (1, x200)), (14, (0, x202))] [] 118 V274
                        have hF281 := pm_fs.tr hF227 hF277 (by decide) (by decide)
                        have e282 : V274 90 16 = y1 := by rw [hF277.2 16 (by decide)]; exact e228
                        have e283 : V274 90 42 = z153 := by rw [hF277.2 42 (by decide)]; exact e230
                        have e284 : V274 90 43 = z155 := by rw [hF277.2 43 (by decide)]; exact e231
                        have e285 : V274 90 51 = y176 := by rw [hF277.2 51 (by decide)]; exact e232
                        have e286 : V274 90 50 = 112 := by rw [hF277.2 50 (by decide)]; exact e233
                        have hp287 : pm_h1 V274 := (pm_h1.fr hp234 (hF277.2 16 (by decide)) (hF277.1 97 (by decide) (by decide)))
                        have hp288 : pm_h2 V274 := (pm_h2.fr hp235 (hF277.2 16 (by decide)) (hF277.2 21 (by decide)) (hF277.1 99 (by decide) (by decide)))
                        have hp289 : pm_w1 V274 := (pm_w1.fr hp237 (hF277.2 16 (by decide)) (hF277.2 48 (by decide)) (hF277.2 49 (by decide)) (hF277.1 110 (by decide) (by decide)) (hF277.1 111 (by decide) (by decide)))
                        have hp290 : pm_w3 V274 := (pm_w3.fr hp238 (hF277.2 16 (by decide)) (hF277.2 46 (by decide)) (hF277.1 110 (by decide) (by decide)) (hF277.1 111 (by decide) (by decide)))
                        have hp291 : pm_w2 V274 := (pm_w2.fr hp239 (hF277.2 16 (by decide)) (hF277.2 51 (by decide)) (hF277.1 112 (by decide) (by decide)))
                        obtain ⟨x292, ei293⟩ : ∃ y : Int, x46 + 1 = y := ⟨_, rfl⟩
                        replace hb207 := hb207.trans (pf_let_eq ei293)
                        refine pm_iinc (y := x292) (lv' := [(5, (0, x292)), (15, (0, 1)), (0, (3, 90)), (1, (0, a1)), (2, (0, a2)), (3, (0, a3)), (4, (0, a4)), (6, (0, y70)), (7, (0, y84)), (8, (0, y98)), (9, (0, y112)), (10, (0, (y126 - 99))), (11, (0, (((100 * a2) + (10 * y70)) + y84))), (12, (1, x200)), (14, (0, x202))]) hC 6 dX12_draw_249 (by decide) rfl ei293 rfl ?_
                        refine pm_goto (tgt := 60) hC dX12_draw_252 (by decide) ?_
                        obtain ⟨y294, e295⟩ : ∃ y, V274 90 25 = y := ⟨_, rfl⟩
                        have b296 := hV276.get 90 25 (lo := 0) (hi := 60) (by decide) (by decide) rfl
                        rw [e295] at b296
                        replace hb207 := hb207.trans (pf_let_eq e295)
                        have hb58 := hb58.trans (pf_val_inr hb207)
                        refine pm_lvsub [2, 3, 4, 5, 6, 0] (lv' := [(0, (3, 90)), (1, (0, a1)), (2, (0, a2)), (3, (0, a3)), (4, (0, a4)), (5, (0, x292))]) rfl ?_
                        exact ih62 _ (by omega) x292 V274 ⟨by omega, by omega⟩ hV276 hF281 e282 hp287 hp288 hg278 (by (have e : V274 90 25 = y294 := e295); rw [e]; omega) (hT.trans (pf_val_inl hb58)) rfl
                  · skip
                    replace hb207 := hb207.trans (if_neg (Int.not_lt.mpr c218))
                    refine pm_lload hC 12 dX12_draw_182 rfl ?_
                    refine pm_aload_n hC 0 (by decide) dX12_draw_184 rfl ?_
                    refine pm_getf (v := 112) hC 90 fl_X12_76 rfl rfl (by decide) rfl e212 dX12_draw_185 ?_
                    refine pm_iload hC 13 dX12_draw_188 rfl ?_
                    refine pm_laload (len := 9) (v := y213) hC 112 rfl rfl (by decide) ⟨by omega, by omega⟩ (by decide) e214 dX12_draw_190 ?_
                    refine pm_lsub hC dX12_draw_191 ?_
                    refine pm_lstore (lv' := [(12, (1, (x200 - y213))), (0, (3, 90)), (1, (0, a1)), (2, (0, a2)), (3, (0, a3)), (4, (0, a4)), (5, (0, x46)), (6, (0, y70)), (7, (0, y84)), (8, (0, y98)), (9, (0, y112)), (10, (0, (y126 - 99))), (11, (0, (((100 * a2) + (10 * y70)) + y84))), (14, (0, x202))]) hC dX12_draw_192 (by decide) rfl ?_
                    obtain ⟨x297, ei298⟩ : ∃ y : Int, x202 + 1 = y := ⟨_, rfl⟩
                    replace hb207 := hb207.trans (pf_let_eq ei298)
                    refine pm_iinc (y := x297) (lv' := [(14, (0, x297)), (12, (1, (x200 - y213))), (0, (3, 90)), (1, (0, a1)), (2, (0, a2)), (3, (0, a3)), (4, (0, a4)), (5, (0, x46)), (6, (0, y70)), (7, (0, y84)), (8, (0, y98)), (9, (0, y112)), (10, (0, (y126 - 99))), (11, (0, (((100 * a2) + (10 * y70)) + y84)))]) hC 13 dX12_draw_194 (by decide) rfl ei298 rfl ?_
                    have hs1 : pm_sum (V181 112) (x297 : Int).toNat = pm_sum (V181 112) (x202 : Int).toNat + y213 := by
                      rw [show (x297 : Int).toNat = (x202 : Int).toNat + 1 by omega]
                      show pm_sum (V181 112) (x202 : Int).toNat + V181 112 (x202 : Int).toNat = _
                      rw [e214]
                    refine pm_goto (tgt := 169) hC dX12_draw_197 (by decide) ?_
                    refine pm_lvsub [2, 3, 4, 5, 6, 7, 8, 9, 10, 11, 12, 13, 1, 0] (lv' := [(0, (3, 90)), (1, (0, a1)), (2, (0, a2)), (3, (0, a3)), (4, (0, a4)), (5, (0, x46)), (6, (0, y70)), (7, (0, y84)), (8, (0, y98)), (9, (0, y112)), (10, (0, (y126 - 99))), (11, (0, (((100 * a2) + (10 * y70)) + y84))), (12, (1, (x200 - y213))), (14, (0, x297))]) rfl ?_
                    exact ih211 _ (by omega) (x200 - y213) x297 ⟨by omega, by omega⟩ ⟨by omega, by omega⟩ (by omega) (hb58.trans (pf_val_inl hb207)) rfl
                refine pm_lvsub [8, 9, 10, 11, 12, 13, 7, 6, 5, 4, 3, 2, 1, 0] (lv' := [(0, (3, 90)), (1, (0, a1)), (2, (0, a2)), (3, (0, a3)), (4, (0, a4)), (5, (0, x46)), (6, (0, y70)), (7, (0, y84)), (8, (0, y98)), (9, (0, y112)), (10, (0, (y126 - 99))), (11, (0, (((100 * a2) + (10 * y70)) + y84))), (12, (1, y183)), (14, (0, 0))]) rfl ?_
                exact L208 _ y183 0 ⟨by omega, by omega⟩ ⟨by decide, by decide⟩ (by omega) hb58 rfl
            refine pm_lvsub [1, 2, 3, 4, 5, 0] (lv' := [(0, (3, 90)), (1, (0, a1)), (2, (0, a2)), (3, (0, a3)), (4, (0, a4)), (5, (0, 0))]) rfl ?_
            exact L59 _ 0 V36 ⟨by decide, by decide⟩ hV38 hF39 e40 hp43 hp44 hp45 (by (have e : V36 90 25 = y4 := e41); rw [e]; omega) hT rfl
          · skip
            replace hT := hT.trans (if_neg (Int.not_le.mpr c35))
            refine pm_iconst (v := (-1)) hC dX12_draw_49 ?_
            exact pm_iret hC hR pm_nar0 ⟨(-1), rfl, ⟨by omega, by omega⟩, hV0, (pm_fs.rf (cs := [101, 110, 111, 112]) (fs := [25, 42, 43, 44, 45, 46, 47, 48, 49, 51, 57]) (V := V0)), hn_pm_h3, hT⟩ dX12_draw_50
