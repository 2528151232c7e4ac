noncomputable def F_X12_draw (a1 a2 a3 a4 : Int) (V0 : pm_M) : Int × pm_M := pf_let (V0 90 16) fun y1 => pf_let (V0 90 25) fun y4 => pf_call (F_X12_isLaw a1 V0) fun y10 _ => (if y10 = 0 then (((-1), V0)) else (pf_call (F_X12_isPerson a2 V0) fun y17 _ => (if y17 = 0 then (((-1), V0)) else (pf_call (F_X12_in a3 0 1000000 V0) fun y24 _ => (if y24 = 0 then (((-1), V0)) else (pf_call (F_X12_in a4 1 20 V0) fun y31 _ => (if y31 = 0 then (((-1), V0)) else ((if (y4 + a4) ≤ 60 then (pf_let ((pm_up V0 90 57 a3)) fun V36 => pf_val ((0 : Int), V0) (fun (q : Int × pm_M) => match q with | (x46, V48) => ((if a4 ≤ x46 then (pf_let (V48 90 25) fun y64 => (.inr (y64, V48))) else (pf_call (F_X12_draws y1 V48) fun y70 V68 => pf_call (F_X12_draws y1 V68) fun y83 V81 => pf_call (F_X12_draws 10 V81) fun y96 V94 => pf_call (F_X12_draws 10 V94) fun y109 V107 => pf_call (F_X12_draws 199 V107) fun y122 V120 => pf_call (F_X12_works (((100 * a2) + (10 * y70)) + y83) ((10 * y96) + y109) (y122 - 99) V120) fun _ V133 => pf_let (V133 90 42) fun z147 => pf_let (V133 90 43) fun z149 => pf_call (F_X12_weighs a1 V133) fun _ V152 => pf_let (V152 90 51) fun y169 => pf_call (F_X12_draws y169 V152) fun y175 V173 => pf_val (.inr ((0 : Int), V0)) (fun (q : Int × Int) => match q with | (x191, x193) => (pf_let (V173 112 (x193 : Int).toNat) fun y204 => pf_let (pm_cmp x191 y204) fun y207 => (if y207 < 0 then (pf_call (F_X12_draws 1000 V173) fun y213 V211 => pf_call (F_X12_noticedNow  V211) fun y233 _ => (if y233 ≤ y213 then (pf_call (F_X12_keepsAnswer (((100 * a2) + (10 * y70)) + y83) ((10 * y96) + y109) (y122 - 99) x193 0 V211) fun _ V239 => pf_let (x46 + 1) fun x256 => pf_let (V239 90 25) fun y258 => (.inr (.inl (x256, V239)))) else (pf_call (F_X12_keepsAnswer (((100 * a2) + (10 * y70)) + y83) ((10 * y96) + y109) (y122 - 99) x193 1 V211) fun _ V263 => pf_let (x46 + 1) fun x280 => pf_let (V263 90 25) fun y282 => (.inr (.inl (x280, V263)))))) else (pf_let (x193 + 1) fun x285 => (.inl ((x191 - y204), x285)))))) (y175, 0))))) (0, V36)) else (((-1), V0)))))))))))
theorem F_X12_draw_eq (a1 a2 a3 a4 : Int) (V0 : pm_M) : F_X12_draw a1 a2 a3 a4 V0 = pf_let (V0 90 16) fun y1 => pf_let (V0 90 25) fun y4 => pf_call (F_X12_isLaw a1 V0) fun y10 _ => (if y10 = 0 then (((-1), V0)) else (pf_call (F_X12_isPerson a2 V0) fun y17 _ => (if y17 = 0 then (((-1), V0)) else (pf_call (F_X12_in a3 0 1000000 V0) fun y24 _ => (if y24 = 0 then (((-1), V0)) else (pf_call (F_X12_in a4 1 20 V0) fun y31 _ => (if y31 = 0 then (((-1), V0)) else ((if (y4 + a4) ≤ 60 then (pf_let ((pm_up V0 90 57 a3)) fun V36 => pf_val ((0 : Int), V0) (fun (q : Int × pm_M) => match q with | (x46, V48) => ((if a4 ≤ x46 then (pf_let (V48 90 25) fun y64 => (.inr (y64, V48))) else (pf_call (F_X12_draws y1 V48) fun y70 V68 => pf_call (F_X12_draws y1 V68) fun y83 V81 => pf_call (F_X12_draws 10 V81) fun y96 V94 => pf_call (F_X12_draws 10 V94) fun y109 V107 => pf_call (F_X12_draws 199 V107) fun y122 V120 => pf_call (F_X12_works (((100 * a2) + (10 * y70)) + y83) ((10 * y96) + y109) (y122 - 99) V120) fun _ V133 => pf_let (V133 90 42) fun z147 => pf_let (V133 90 43) fun z149 => pf_call (F_X12_weighs a1 V133) fun _ V152 => pf_let (V152 90 51) fun y169 => pf_call (F_X12_draws y169 V152) fun y175 V173 => pf_val (.inr ((0 : Int), V0)) (fun (q : Int × Int) => match q with | (x191, x193) => (pf_let (V173 112 (x193 : Int).toNat) fun y204 => pf_let (pm_cmp x191 y204) fun y207 => (if y207 < 0 then (pf_call (F_X12_draws 1000 V173) fun y213 V211 => pf_call (F_X12_noticedNow  V211) fun y233 _ => (if y233 ≤ y213 then (pf_call (F_X12_keepsAnswer (((100 * a2) + (10 * y70)) + y83) ((10 * y96) + y109) (y122 - 99) x193 0 V211) fun _ V239 => pf_let (x46 + 1) fun x256 => pf_let (V239 90 25) fun y258 => (.inr (.inl (x256, V239)))) else (pf_call (F_X12_keepsAnswer (((100 * a2) + (10 * y70)) + y83) ((10 * y96) + y109) (y122 - 99) x193 1 V211) fun _ V263 => pf_let (x46 + 1) fun x280 => pf_let (V263 90 25) fun y282 => (.inr (.inl (x280, V263)))))) else (pf_let (x193 + 1) fun x285 => (.inl ((x191 - y204), x285)))))) (y175, 0))))) (0, V36)) else (((-1), V0))))))))))) := rfl
set_option maxHeartbeats 4000000 in
set_option maxRecDepth 100000 in
theorem fB_X12_draw (a1 a2 a3 a4 : Int) (h0 : (-2147483648) ≤ a1 ∧ a1 ≤ 2147483647) (h1 : (-2147483648) ≤ a2 ∧ a2 ≤ 2147483647) (h2 : (-2147483648) ≤ a3 ∧ a3 ≤ 2147483647) (h3 : (-2147483648) ≤ a4 ∧ a4 ≤ 2147483647) : pm_K 4 yX12_draw cX12_draw 16 (some .int) (fun av V => av = [(3, 90), (0, a1), (0, a2), (0, a3), (0, a4)] ∧ pm_oq pm_qB V ∧ pm_h1 V ∧ pm_h2 V ∧ pm_h3 V) (fun _ V r V' => ∃ y, r = some (0, y) ∧ ((-1) ≤ y ∧ y ≤ 60) ∧ pm_oq pm_qB V' ∧ pm_fs [101, 110, 111, 112] [25, 42, 43, 44, 45, 46, 47, 48, 49, 51, 57] V V' ∧ pm_h3 V' ∧ F_X12_draw a1 a2 a3 a4 V = (y, V')) := by
  refine pm_MT.of (by decide) ⟨Nat.le_refl _, by decide⟩ (fun av V h => by rw [h.1]; exact (by decide : pm_words [(3, 0), (0, 0), (0, 0), (0, 0), (0, 0)] ≤ 16)) ?_
  rintro X av V0 hC - hR ⟨rfl, hV0, hn_pm_h1, hn_pm_h2, hn_pm_h3⟩
  change pm_J X 0 [(0, (3, 90)), (1, (0, a1)), (2, (0, a2)), (3, (0, a3)), (4, (0, a4))] [] 118 V0
  have hT := F_X12_draw_eq a1 a2 a3 a4 V0
  obtain ⟨y1, e2⟩ : ∃ y, V0 90 16 = y := ⟨_, rfl⟩
  have b3 := hV0.get 90 16 (lo := 2) (hi := 9) (by decide) (by decide) rfl
  rw [e2] at b3
  replace hT := hT.trans (pf_let_eq e2)
  obtain ⟨y4, e5⟩ : ∃ y, V0 90 25 = y := ⟨_, rfl⟩
  have b6 := hV0.get 90 25 (lo := 0) (hi := 60) (by decide) (by decide) rfl
  rw [e5] at b6
  replace hT := hT.trans (pf_let_eq e5)
  refine pm_iload_n hC 1 dX12_draw_0 rfl ?_
  refine pm_callS (as := [(0, a1)]) (st := []) hC (fB_X12_isLaw a1 ⟨by omega, by omega⟩) lm_X12_370 ls_X12_isLaw (by decide) (by decide) rfl rfl (Nat.le_of_ble_eq_true rfl) ⟨Nat.le_refl _, Or.inl rfl⟩ dX12_draw_1 ⟨rfl, hV0⟩ (fun r7 V8 hp9 => ?_)
  obtain ⟨y10, rfl, b11, rfl, hE12⟩ := hp9
  replace hT := hT.trans (pf_call_eq hE12)
  change pm_J X 4 [(0, (3, 90)), (1, (0, a1)), (2, (0, a2)), (3, (0, a3)), (4, (0, a4))] [(0, y10)] 118 V0
  refine pm_if_eq (tgt := 49) hC ⟨by omega, by omega⟩ dX12_draw_4 (by decide) (fun c13 => ?_) (fun c13 => ?_)
  · skip
    replace hT := hT.trans (if_pos c13)
    refine pm_iconst (v := (-1)) hC dX12_draw_49 ?_
    exact pm_iret hC hR pm_nar0 ⟨(-1), rfl, ⟨by omega, by omega⟩, hV0, (pm_fs.rf (cs := [101, 110, 111, 112]) (fs := [25, 42, 43, 44, 45, 46, 47, 48, 49, 51, 57]) (V := V0)), hn_pm_h3, hT⟩ dX12_draw_50
  · skip
    replace hT := hT.trans (if_neg c13)
    refine pm_aload_n hC 0 (by decide) dX12_draw_7 rfl ?_
    refine pm_iload_n hC 2 dX12_draw_8 rfl ?_
    refine pm_callV (ci := 12) (as := [(0, a2)]) (st := []) hC 90 (fB_X12_isPerson a2 ⟨by omega, by omega⟩) lm_X12_302 li_X12_isPerson (by decide) (by decide) rfl rfl rfl (by decide) rfl rfl (Nat.le_of_ble_eq_true rfl) ⟨Nat.le_refl _, Or.inl rfl⟩ dX12_draw_9 ⟨rfl, hV0⟩ (fun r14 V15 hp16 => ?_)
    obtain ⟨y17, rfl, b18, rfl, hE19⟩ := hp16
    replace hT := hT.trans (pf_call_eq hE19)
    change pm_J X 12 [(0, (3, 90)), (1, (0, a1)), (2, (0, a2)), (3, (0, a3)), (4, (0, a4))] [(0, y17)] 118 V0
    refine pm_if_eq (tgt := 49) hC ⟨by omega, by omega⟩ dX12_draw_12 (by decide) (fun c20 => ?_) (fun c20 => ?_)
    · skip
      replace hT := hT.trans (if_pos c20)
      refine pm_iconst (v := (-1)) hC dX12_draw_49 ?_
      exact pm_iret hC hR pm_nar0 ⟨(-1), rfl, ⟨by omega, by omega⟩, hV0, (pm_fs.rf (cs := [101, 110, 111, 112]) (fs := [25, 42, 43, 44, 45, 46, 47, 48, 49, 51, 57]) (V := V0)), hn_pm_h3, hT⟩ dX12_draw_50
    · skip
      replace hT := hT.trans (if_neg c20)
      refine pm_iload_n hC 3 dX12_draw_15 rfl ?_
      refine pm_iconst (v := 0) hC dX12_draw_16 ?_
      refine pm_ldcw (v := 1000000) hC 8023 dX12_draw_17 (by decide +kernel) ?_
      refine pm_callS (as := [(0, a3), (0, 0), (0, 1000000)]) (st := []) hC (fB_X12_in a3 0 1000000 ⟨by omega, by omega⟩ ⟨by decide, by decide⟩ ⟨by decide, by decide⟩) lm_X12_98 ls_X12_in (by decide) (by decide) rfl rfl (Nat.le_of_ble_eq_true rfl) ⟨Nat.le_refl _, Or.inl rfl⟩ dX12_draw_20 ⟨rfl, hV0⟩ (fun r21 V22 hp23 => ?_)
      obtain ⟨y24, rfl, b25, rfl, hE26⟩ := hp23
      replace hT := hT.trans (pf_call_eq hE26)
      change pm_J X 23 [(0, (3, 90)), (1, (0, a1)), (2, (0, a2)), (3, (0, a3)), (4, (0, a4))] [(0, y24)] 118 V0
      refine pm_if_eq (tgt := 49) hC ⟨by omega, by omega⟩ dX12_draw_23 (by decide) (fun c27 => ?_) (fun c27 => ?_)
      · skip
        replace hT := hT.trans (if_pos c27)
        refine pm_iconst (v := (-1)) hC dX12_draw_49 ?_
        exact pm_iret hC hR pm_nar0 ⟨(-1), rfl, ⟨by omega, by omega⟩, hV0, (pm_fs.rf (cs := [101, 110, 111, 112]) (fs := [25, 42, 43, 44, 45, 46, 47, 48, 49, 51, 57]) (V := V0)), hn_pm_h3, hT⟩ dX12_draw_50
      · skip
        replace hT := hT.trans (if_neg c27)
        refine pm_iload hC 4 dX12_draw_26 rfl ?_
        refine pm_iconst (v := 1) hC dX12_draw_28 ?_
        refine pm_bipush (v := 20) hC dX12_draw_29 (by decide) ?_
        refine pm_callS (as := [(0, a4), (0, 1), (0, 20)]) (st := []) hC (fB_X12_in a4 1 20 ⟨by omega, by omega⟩ ⟨by decide, by decide⟩ ⟨by decide, by decide⟩) lm_X12_98 ls_X12_in (by decide) (by decide) rfl rfl (Nat.le_of_ble_eq_true rfl) ⟨Nat.le_refl _, Or.inl rfl⟩ dX12_draw_31 ⟨rfl, hV0⟩ (fun r28 V29 hp30 => ?_)
        obtain ⟨y31, rfl, b32, rfl, hE33⟩ := hp30
        replace hT := hT.trans (pf_call_eq hE33)
        change pm_J X 34 [(0, (3, 90)), (1, (0, a1)), (2, (0, a2)), (3, (0, a3)), (4, (0, a4))] [(0, y31)] 118 V0
        refine pm_if_eq (tgt := 49) hC ⟨by omega, by omega⟩ dX12_draw_34 (by decide) (fun c34 => ?_) (fun c34 => ?_)
        · skip
          replace hT := hT.trans (if_pos c34)
          refine pm_iconst (v := (-1)) hC dX12_draw_49 ?_
          exact pm_iret hC hR pm_nar0 ⟨(-1), rfl, ⟨by omega, by omega⟩, hV0, (pm_fs.rf (cs := [101, 110, 111, 112]) (fs := [25, 42, 43, 44, 45, 46, 47, 48, 49, 51, 57]) (V := V0)), hn_pm_h3, hT⟩ dX12_draw_50
        · skip
          replace hT := hT.trans (if_neg c34)
          refine pm_aload_n hC 0 (by decide) dX12_draw_37 rfl ?_
          refine pm_getf (v := y4) hC 90 fl_X12_235 rfl rfl (by decide) rfl e5 dX12_draw_38 ?_
          refine pm_iload hC 4 dX12_draw_41 rfl ?_
          refine pm_iadd hC dX12_draw_43 ?_
          refine pm_bipush (v := 60) hC dX12_draw_44 (by decide) ?_
          refine pm_icmp_le (tgt := 51) hC ⟨by omega, by omega⟩ ⟨by decide, by decide⟩ dX12_draw_46 (by decide) (fun c35 => ?_) (fun c35 => ?_)
          · skip
            replace hT := hT.trans (if_pos c35)
            refine pm_aload_n hC 0 (by decide) dX12_draw_51 rfl ?_
            refine pm_iload_n hC 3 dX12_draw_52 rfl ?_
            refine pm_i2l hC ⟨by omega, by omega⟩ dX12_draw_53 ?_
            refine pm_putf hC 90 fl_X12_464 rfl rfl rfl (by decide) rfl trivial dX12_draw_54 ?_
            refine pm_iconst (v := 0) hC dX12_draw_57 ?_
            refine pm_istore (lv' := [(5, (0, 0)), (0, (3, 90)), (1, (0, a1)), (2, (0, a2)), (3, (0, a3)), (4, (0, a4))]) hC dX12_draw_58 (by decide) rfl ?_
            have hV38 := (hV0.put 90 57 (x := a3) (lo := (-9223372036854775808)) (hi := 9223372036854775807) rfl ⟨by omega, by omega⟩)
            have hF39 := ((pm_fs.rf (cs := [101, 110, 111, 112]) (fs := [25, 42, 43, 44, 45, 46, 47, 48, 49, 51, 57]) (V := V0)).upf 57 a3 rfl)
            obtain ⟨V36, hv37⟩ : ∃ V, V = (pm_up V0 90 57 a3) := ⟨_, rfl⟩
            rw [← hv37] at hV38 hF39
            rw [← hv37]
            replace hT := hT.trans (pf_let_eq hv37.symm)
            have e40 : V36 90 16 = y1 := by rw [hv37]; exact e2
            have e41 : V36 90 25 = y4 := by rw [hv37]; exact e5
            have e42 : V36 90 57 = a3 := by rw [hv37]; rfl
            have hp43 : pm_h1 V36 := by rw [hv37]; exact (pm_h1.fr hn_pm_h1 rfl rfl)
            have hp44 : pm_h2 V36 := by rw [hv37]; exact (pm_h2.fr hn_pm_h2 rfl rfl rfl)
            have hp45 : pm_h3 V36 := by rw [hv37]; exact (pm_h3.fr hn_pm_h3 rfl rfl rfl)
            obtain ⟨B56, hB57, hT⟩ := pf_loop hT
            have L59 : ∀ (N61 : Nat) (x46 : Int) (V48 : pm_M), (0 ≤ x46 ∧ x46 ≤ 20) → pm_oq pm_qB V48 → pm_fs [101, 110, 111, 112] [25, 42, 43, 44, 45, 46, 47, 48, 49, 51, 57] V0 V48 → V48 90 16 = y1 → pm_h1 V48 → pm_h2 V48 → pm_h3 V48 → (V48 90 25 = y4 + x46) → F_X12_draw a1 a2 a3 a4 V0 = pf_val ((0 : Int), V0) B56 (x46, V48) → (Int.toNat (20 - x46)) = N61 → pm_J X 60 [(0, (3, 90)), (1, (0, a1)), (2, (0, a2)), (3, (0, a3)), (4, (0, a4)), (5, (0, x46))] [] 118 V48 := by
              intro N61
              induction N61 using Nat.strongRecOn with
              | _ N61 ih62 =>
              intro x46 V48 b47 hV49 hF50 e51 hp52 hp53 hp54 hm55 hT hm60
              have hb58 := congrFun hB57 (x46, V48)
              refine pm_iload hC 5 dX12_draw_60 rfl ?_
              refine pm_iload hC 4 dX12_draw_62 rfl ?_
              refine pm_icmp_ge (tgt := 255) hC ⟨by omega, by omega⟩ ⟨by omega, by omega⟩ dX12_draw_64 (by decide) (fun c63 => ?_) (fun c63 => ?_)
              · skip
                replace hb58 := hb58.trans (if_pos c63)
                refine pm_aload_n hC 0 (by decide) dX12_draw_255 rfl ?_
                obtain ⟨y64, e65⟩ : ∃ y, V48 90 25 = y := ⟨_, rfl⟩
                have b66 := hV49.get 90 25 (lo := 0) (hi := 60) (by decide) (by decide) rfl
                rw [e65] at b66
                replace hb58 := hb58.trans (pf_let_eq e65)
                refine pm_getf (v := y64) hC 90 fl_X12_235 rfl rfl (by decide) rfl e65 dX12_draw_256 ?_
                have hT := hT.trans (pf_val_inr hb58)
                exact pm_iret hC hR pm_nar0 ⟨y64, rfl, ⟨by omega, by omega⟩, hV49, hF50, hp54, hT⟩ dX12_draw_259
              · skip
                replace hb58 := hb58.trans (if_neg (Int.not_le.mpr c63))
                refine pm_aload_n hC 0 (by decide) dX12_draw_67 rfl ?_
                refine pm_aload_n hC 0 (by decide) dX12_draw_68 rfl ?_
                refine pm_getf (v := y1) hC 90 fl_X12_220 rfl rfl (by decide) rfl e51 dX12_draw_69 ?_
                refine pm_i2l hC ⟨by omega, by omega⟩ dX12_draw_72 ?_
                refine pm_callV (ci := 12) (as := [(1, y1)]) (st := []) hC 90 (fB_X12_draws y1 ⟨by omega, by omega⟩) lm_X12_476 li_X12_draws (by decide) (by decide) rfl rfl rfl (by decide) rfl rfl (Nat.le_of_ble_eq_true rfl) ⟨Nat.le_refl _, Or.inl rfl⟩ dX12_draw_73 ⟨rfl, hV49⟩ (fun r67 V68 hp69 => ?_)
                obtain ⟨y70, rfl, b71, hV72, hF73, hE74⟩ := hp69
                replace hb58 := hb58.trans (pf_call_eq hE74)
                change pm_J X 76 [(0, (3, 90)), (1, (0, a1)), (2, (0, a2)), (3, (0, a3)), (4, (0, a4)), (5, (0, x46))] [(0, y70)] 118 V68
                have hF75 := pm_fs.tr hF50 hF73 (by decide) (by decide)
                have e76 : V68 90 16 = y1 := by rw [hF73.2 16 (by decide)]; exact e51
                have hp77 : pm_h1 V68 := (pm_h1.fr hp52 (hF73.2 16 (by decide)) (hF73.1 97 (by decide) (by decide)))
                have hp78 : pm_h2 V68 := (pm_h2.fr hp53 (hF73.2 16 (by decide)) (hF73.2 21 (by decide)) (hF73.1 99 (by decide) (by decide)))
                have hp79 : pm_h3 V68 := (pm_h3.fr hp54 (hF73.2 16 (by decide)) (hF73.2 25 (by decide)) (hF73.1 101 (by decide) (by decide)))
                refine pm_istore (lv' := [(6, (0, y70)), (0, (3, 90)), (1, (0, a1)), (2, (0, a2)), (3, (0, a3)), (4, (0, a4)), (5, (0, x46))]) hC dX12_draw_76 (by decide) rfl ?_
                refine pm_aload_n hC 1 (by decide) dX12_draw_78 rfl ?_
                refine pm_aload_n hC 1 (by decide) dX12_draw_79 rfl ?_
                refine pm_getf (v := y1) hC 90 fl_X12_220 rfl rfl (by decide) rfl e76 dX12_draw_80 ?_
                refine pm_i2l hC ⟨by omega, by omega⟩ dX12_draw_83 ?_
                refine pm_callV (ci := 12) (as := [(1, y1)]) (st := []) hC 90 (fB_X12_draws y1 ⟨by omega, by omega⟩) lm_X12_476 li_X12_draws (by decide) (by decide) rfl rfl rfl (by decide) rfl rfl (Nat.le_of_ble_eq_true rfl) ⟨Nat.le_refl _, Or.inl rfl⟩ dX12_draw_84 ⟨rfl, hV72⟩ (fun r80 V81 hp82 => ?_)
                obtain ⟨y83, rfl, b84, hV85, hF86, hE87⟩ := hp82
                replace hb58 := hb58.trans (pf_call_eq hE87)
                change pm_J X 87 [(6, (0, y70)), (0, (3, 90)), (1, (0, a1)), (2, (0, a2)), (3, (0, a3)), (4, (0, a4)), (5, (0, x46))] [(0, y83)] 118 V81
                have hF88 := pm_fs.tr hF75 hF86 (by decide) (by decide)
                have e89 : V81 90 16 = y1 := by rw [hF86.2 16 (by decide)]; exact e76
                have hp90 : pm_h1 V81 := (pm_h1.fr hp77 (hF86.2 16 (by decide)) (hF86.1 97 (by decide) (by decide)))
                have hp91 : pm_h2 V81 := (pm_h2.fr hp78 (hF86.2 16 (by decide)) (hF86.2 21 (by decide)) (hF86.1 99 (by decide) (by decide)))
                have hp92 : pm_h3 V81 := (pm_h3.fr hp79 (hF86.2 16 (by decide)) (hF86.2 25 (by decide)) (hF86.1 101 (by decide) (by decide)))
                refine pm_istore (lv' := [(7, (0, y83)), (6, (0, y70)), (0, (3, 90)), (1, (0, a1)), (2, (0, a2)), (3, (0, a3)), (4, (0, a4)), (5, (0, x46))]) hC dX12_draw_87 (by decide) rfl ?_
                refine pm_aload_n hC 2 (by decide) dX12_draw_89 rfl ?_
                refine pm_ldc2 (v := 10) hC 6087 dX12_draw_90 (by decide +kernel) ?_
                refine pm_callV (ci := 12) (as := [(1, 10)]) (st := []) hC 90 (fB_X12_draws 10 ⟨by decide, by decide⟩) lm_X12_476 li_X12_draws (by decide) (by decide) rfl rfl rfl (by decide) rfl rfl (Nat.le_of_ble_eq_true rfl) ⟨Nat.le_refl _, Or.inl rfl⟩ dX12_draw_93 ⟨rfl, hV85⟩ (fun r93 V94 hp95 => ?_)
                obtain ⟨y96, rfl, b97, hV98, hF99, hE100⟩ := hp95
                replace hb58 := hb58.trans (pf_call_eq hE100)
                change pm_J X 96 [(7, (0, y83)), (6, (0, y70)), (0, (3, 90)), (1, (0, a1)), (2, (0, a2)), (3, (0, a3)), (4, (0, a4)), (5, (0, x46))] [(0, y96)] 118 V94
                have hF101 := pm_fs.tr hF88 hF99 (by decide) (by decide)
                have e102 : V94 90 16 = y1 := by rw [hF99.2 16 (by decide)]; exact e89
                have hp103 : pm_h1 V94 := (pm_h1.fr hp90 (hF99.2 16 (by decide)) (hF99.1 97 (by decide) (by decide)))
                have hp104 : pm_h2 V94 := (pm_h2.fr hp91 (hF99.2 16 (by decide)) (hF99.2 21 (by decide)) (hF99.1 99 (by decide) (by decide)))
                have hp105 : pm_h3 V94 := (pm_h3.fr hp92 (hF99.2 16 (by decide)) (hF99.2 25 (by decide)) (hF99.1 101 (by decide) (by decide)))
                refine pm_istore (lv' := [(8, (0, y96)), (7, (0, y83)), (6, (0, y70)), (0, (3, 90)), (1, (0, a1)), (2, (0, a2)), (3, (0, a3)), (4, (0, a4)), (5, (0, x46))]) hC dX12_draw_96 (by decide) rfl ?_
                refine pm_aload_n hC 3 (by decide) dX12_draw_98 rfl ?_
                refine pm_ldc2 (v := 10) hC 6087 dX12_draw_99 (by decide +kernel) ?_
                refine pm_callV (ci := 12) (as := [(1, 10)]) (st := []) hC 90 (fB_X12_draws 10 ⟨by decide, by decide⟩) lm_X12_476 li_X12_draws (by decide) (by decide) rfl rfl rfl (by decide) rfl rfl (Nat.le_of_ble_eq_true rfl) ⟨Nat.le_refl _, Or.inl rfl⟩ dX12_draw_102 ⟨rfl, hV98⟩ (fun r106 V107 hp108 => ?_)
                obtain ⟨y109, rfl, b110, hV111, hF112, hE113⟩ := hp108
                replace hb58 := hb58.trans (pf_call_eq hE113)
                change pm_J X 105 [(8, (0, y96)), (7, (0, y83)), (6, (0, y70)), (0, (3, 90)), (1, (0, a1)), (2, (0, a2)), (3, (0, a3)), (4, (0, a4)), (5, (0, x46))] [(0, y109)] 118 V107
                have hF114 := pm_fs.tr hF101 hF112 (by decide) (by decide)
                have e115 : V107 90 16 = y1 := by rw [hF112.2 16 (by decide)]; exact e102
                have hp116 : pm_h1 V107 := (pm_h1.fr hp103 (hF112.2 16 (by decide)) (hF112.1 97 (by decide) (by decide)))
                have hp117 : pm_h2 V107 := (pm_h2.fr hp104 (hF112.2 16 (by decide)) (hF112.2 21 (by decide)) (hF112.1 99 (by decide) (by decide)))
                have hp118 : pm_h3 V107 := (pm_h3.fr hp105 (hF112.2 16 (by decide)) (hF112.2 25 (by decide)) (hF112.1 101 (by decide) (by decide)))
                refine pm_istore (lv' := [(9, (0, y109)), (8, (0, y96)), (7, (0, y83)), (6, (0, y70)), (0, (3, 90)), (1, (0, a1)), (2, (0, a2)), (3, (0, a3)), (4, (0, a4)), (5, (0, x46))]) hC dX12_draw_105 (by decide) rfl ?_
                refine pm_aload_n hC 4 (by decide) dX12_draw_107 rfl ?_
                refine pm_ldc2 (v := 199) hC 8032 dX12_draw_108 (by decide +kernel) ?_
                refine pm_callV (ci := 12) (as := [(1, 199)]) (st := []) hC 90 (fB_X12_draws 199 ⟨by decide, by decide⟩) lm_X12_476 li_X12_draws (by decide) (by decide) rfl rfl rfl (by decide) rfl rfl (Nat.le_of_ble_eq_true rfl) ⟨Nat.le_refl _, Or.inl rfl⟩ dX12_draw_111 ⟨rfl, hV111⟩ (fun r119 V120 hp121 => ?_)
                obtain ⟨y122, rfl, b123, hV124, hF125, hE126⟩ := hp121
                replace hb58 := hb58.trans (pf_call_eq hE126)
                change pm_J X 114 [(9, (0, y109)), (8, (0, y96)), (7, (0, y83)), (6, (0, y70)), (0, (3, 90)), (1, (0, a1)), (2, (0, a2)), (3, (0, a3)), (4, (0, a4)), (5, (0, x46))] [(0, y122)] 118 V120
                have hF127 := pm_fs.tr hF114 hF125 (by decide) (by decide)
                have e128 : V120 90 16 = y1 := by rw [hF125.2 16 (by decide)]; exact e115
                have hp129 : pm_h1 V120 := (pm_h1.fr hp116 (hF125.2 16 (by decide)) (hF125.1 97 (by decide) (by decide)))
                have hp130 : pm_h2 V120 := (pm_h2.fr hp117 (hF125.2 16 (by decide)) (hF125.2 21 (by decide)) (hF125.1 99 (by decide) (by decide)))
                have hp131 : pm_h3 V120 := (pm_h3.fr hp118 (hF125.2 16 (by decide)) (hF125.2 25 (by decide)) (hF125.1 101 (by decide) (by decide)))
                refine pm_bipush (v := 99) hC dX12_draw_114 (by decide) ?_
                refine pm_isub hC dX12_draw_116 ?_
                refine pm_istore (lv' := [(10, (0, (y122 - 99))), (9, (0, y109)), (8, (0, y96)), (7, (0, y83)), (6, (0, y70)), (0, (3, 90)), (1, (0, a1)), (2, (0, a2)), (3, (0, a3)), (4, (0, a4)), (5, (0, x46))]) hC dX12_draw_117 (by decide) rfl ?_
                refine pm_bipush (v := 100) hC dX12_draw_119 (by decide) ?_
                refine pm_iload_n hC 7 dX12_draw_121 rfl ?_
                refine pm_imul hC dX12_draw_122 ?_
                refine pm_bipush (v := 10) hC dX12_draw_123 (by decide) ?_
                refine pm_iload hC 4 dX12_draw_125 rfl ?_
                refine pm_imul hC dX12_draw_127 ?_
                refine pm_iadd hC dX12_draw_128 ?_
                refine pm_iload hC 3 dX12_draw_129 rfl ?_
                refine pm_iadd hC dX12_draw_131 ?_
                refine pm_istore (lv' := [(11, (0, (((100 * a2) + (10 * y70)) + y83))), (10, (0, (y122 - 99))), (9, (0, y109)), (8, (0, y96)), (7, (0, y83)), (6, (0, y70)), (0, (3, 90)), (1, (0, a1)), (2, (0, a2)), (3, (0, a3)), (4, (0, a4)), (5, (0, x46))]) hC dX12_draw_132 (by decide) rfl ?_
                refine pm_aload_n hC 6 (by decide) dX12_draw_134 rfl ?_
                refine pm_iload hC 0 dX12_draw_135 rfl ?_
                refine pm_bipush (v := 10) hC dX12_draw_137 (by decide) ?_
                refine pm_iload hC 3 dX12_draw_139 rfl ?_
                refine pm_imul hC dX12_draw_141 ?_
                refine pm_iload hC 2 dX12_draw_142 rfl ?_
                refine pm_iadd hC dX12_draw_144 ?_
                refine pm_iload hC 1 dX12_draw_145 rfl ?_
                refine pm_callV (ci := 12) (as := [(0, (((100 * a2) + (10 * y70)) + y83)), (0, ((10 * y96) + y109)), (0, (y122 - 99))]) (st := []) hC 90 (fB_X12_works (((100 * a2) + (10 * y70)) + y83) ((10 * y96) + y109) (y122 - 99) ⟨by omega, by omega⟩ ⟨by omega, by omega⟩ ⟨by omega, by omega⟩ (by omega)) lm_X12_376 li_X12_works (by decide) (by decide) rfl rfl rfl (by decide) rfl rfl (Nat.le_of_ble_eq_true rfl) ⟨Nat.le_refl _, Or.inl rfl⟩ dX12_draw_147 ⟨rfl, hV124, (show ((((100 * a2) + (10 * y70)) + y83)) % 10 < V120 90 16 by omega), (show ((((100 * a2) + (10 * y70)) + y83)) / 10 % 10 < V120 90 16 by omega), hp129⟩ (fun r132 V133 hp134 => ?_)
                obtain ⟨rfl, hV135, hF136, hq137, hq138, hg139, hg140, hE141⟩ := hp134
                replace hb58 := hb58.trans (pf_call_eq hE141)
                change pm_J X 150 [(11, (0, (((100 * a2) + (10 * y70)) + y83))), (10, (0, (y122 - 99))), (9, (0, y109)), (8, (0, y96)), (7, (0, y83)), (6, (0, y70)), (0, (3, 90)), (1, (0, a1)), (2, (0, a2)), (3, (0, a3)), (4, (0, a4)), (5, (0, x46))] [] 118 V133
                have hF142 := pm_fs.tr hF127 hF136 (by decide) (by decide)
                have e143 : V133 90 16 = y1 := by rw [hF136.2 16 (by decide)]; exact e128
                have hp144 : pm_h1 V133 := (pm_h1.fr hp129 (hF136.2 16 (by decide)) (hF136.1 97 (by decide) (by decide)))
                have hp145 : pm_h2 V133 := (pm_h2.fr hp130 (hF136.2 16 (by decide)) (hF136.2 21 (by decide)) (hF136.1 99 (by decide) (by decide)))
                have hp146 : pm_h3 V133 := (pm_h3.fr hp131 (hF136.2 16 (by decide)) (hF136.2 25 (by decide)) (hF136.1 101 (by decide) (by decide)))
                obtain ⟨z147, ez148⟩ : ∃ z, V133 90 42 = z := ⟨_, rfl⟩
                rw [ez148] at hq137
                replace hb58 := hb58.trans (pf_let_eq ez148)
                obtain ⟨z149, ez150⟩ : ∃ z, V133 90 43 = z := ⟨_, rfl⟩
                rw [ez150] at hq138
                replace hb58 := hb58.trans (pf_let_eq ez150)
                refine pm_aload_n hC 6 (by decide) dX12_draw_150 rfl ?_
                refine pm_iload_n hC 7 dX12_draw_151 rfl ?_
                have q154 : 1 ≤ V133 90 42 ∧ V133 90 42 ≤ 171 := by (have e : V133 90 42 = z147 := ez148); rw [e]; exact ⟨by omega, by omega⟩
                have q155 : 1 ≤ V133 90 43 ∧ V133 90 43 ≤ 171 := by (have e : V133 90 43 = z149 := ez150); rw [e]; exact ⟨by omega, by omega⟩
                refine pm_callV (ci := 12) (as := [(0, a1)]) (st := []) hC 90 (fB_X12_weighs a1 ⟨by omega, by omega⟩) lm_X12_380 li_X12_weighs (by decide) (by decide) rfl rfl rfl (by decide) rfl rfl (Nat.le_of_ble_eq_true rfl) ⟨Nat.le_refl _, Or.inl rfl⟩ dX12_draw_152 ⟨rfl, hV135, q154, q155, hg139, hp144, hp145, hg140⟩ (fun r151 V152 hp153 => ?_)
                obtain ⟨rfl, hV156, hF157, hg158, hE159⟩ := hp153
                replace hb58 := hb58.trans (pf_call_eq hE159)
                change pm_J X 155 [(11, (0, (((100 * a2) + (10 * y70)) + y83))), (10, (0, (y122 - 99))), (9, (0, y109)), (8, (0, y96)), (7, (0, y83)), (6, (0, y70)), (0, (3, 90)), (1, (0, a1)), (2, (0, a2)), (3, (0, a3)), (4, (0, a4)), (5, (0, x46))] [] 118 V152
                have hF160 := pm_fs.tr hF142 hF157 (by decide) (by decide)
                have e161 : V152 90 16 = y1 := by rw [hF157.2 16 (by decide)]; exact e143
                have e162 : V152 90 42 = z147 := by rw [hF157.2 42 (by decide)]; exact ez148
                have e163 : V152 90 43 = z149 := by rw [hF157.2 43 (by decide)]; exact ez150
                have hp164 : pm_h1 V152 := (pm_h1.fr hp144 (hF157.2 16 (by decide)) (hF157.1 97 (by decide) (by decide)))
                have hp165 : pm_h2 V152 := (pm_h2.fr hp145 (hF157.2 16 (by decide)) (hF157.2 21 (by decide)) (hF157.1 99 (by decide) (by decide)))
                have hp166 : pm_h3 V152 := (pm_h3.fr hp146 (hF157.2 16 (by decide)) (hF157.2 25 (by decide)) (hF157.1 101 (by decide) (by decide)))
                have hp167 : pm_w1 V152 := (pm_w1.fr hg139 (hF157.2 16 (by decide)) (hF157.2 48 (by decide)) (hF157.2 49 (by decide)) (hF157.1 110 (by decide) (by decide)) (hF157.1 111 (by decide) (by decide)))
                have hp168 : pm_w3 V152 := (pm_w3.fr hg140 (hF157.2 16 (by decide)) (hF157.2 46 (by decide)) (hF157.1 110 (by decide) (by decide)) (hF157.1 111 (by decide) (by decide)))
                refine pm_aload_n hC 6 (by decide) dX12_draw_155 rfl ?_
                refine pm_aload_n hC 6 (by decide) dX12_draw_156 rfl ?_
                obtain ⟨y169, e170⟩ : ∃ y, V152 90 51 = y := ⟨_, rfl⟩
                have b171 := hV156.get 90 51 (lo := 0) (hi := 720000000) (by decide) (by decide) rfl
                rw [e170] at b171
                replace hb58 := hb58.trans (pf_let_eq e170)
                refine pm_getf (v := y169) hC 90 fl_X12_362 rfl rfl (by decide) rfl e170 dX12_draw_157 ?_
                refine pm_callV (ci := 12) (as := [(1, y169)]) (st := []) hC 90 (fB_X12_draws y169 ⟨by omega, by omega⟩) lm_X12_476 li_X12_draws (by decide) (by decide) rfl rfl rfl (by decide) rfl rfl (Nat.le_of_ble_eq_true rfl) ⟨Nat.le_refl _, Or.inl rfl⟩ dX12_draw_160 ⟨rfl, hV156⟩ (fun r172 V173 hp174 => ?_)
                obtain ⟨y175, rfl, b176, hV177, hF178, hE179⟩ := hp174
                replace hb58 := hb58.trans (pf_call_eq hE179)
                change pm_J X 163 [(11, (0, (((100 * a2) + (10 * y70)) + y83))), (10, (0, (y122 - 99))), (9, (0, y109)), (8, (0, y96)), (7, (0, y83)), (6, (0, y70)), (0, (3, 90)), (1, (0, a1)), (2, (0, a2)), (3, (0, a3)), (4, (0, a4)), (5, (0, x46))] [(0, y175)] 118 V173
                have hF180 := pm_fs.tr hF160 hF178 (by decide) (by decide)
                have e181 : V173 90 16 = y1 := by rw [hF178.2 16 (by decide)]; exact e161
                have e182 : V173 90 42 = z147 := by rw [hF178.2 42 (by decide)]; exact e162
                have e183 : V173 90 43 = z149 := by rw [hF178.2 43 (by decide)]; exact e163
                have e184 : V173 90 51 = y169 := by rw [hF178.2 51 (by decide)]; exact e170
                have hp185 : pm_h1 V173 := (pm_h1.fr hp164 (hF178.2 16 (by decide)) (hF178.1 97 (by decide) (by decide)))
                have hp186 : pm_h2 V173 := (pm_h2.fr hp165 (hF178.2 16 (by decide)) (hF178.2 21 (by decide)) (hF178.1 99 (by decide) (by decide)))
                have hp187 : pm_h3 V173 := (pm_h3.fr hp166 (hF178.2 16 (by decide)) (hF178.2 25 (by decide)) (hF178.1 101 (by decide) (by decide)))
                have hp188 : pm_w1 V173 := (pm_w1.fr hp167 (hF178.2 16 (by decide)) (hF178.2 48 (by decide)) (hF178.2 49 (by decide)) (hF178.1 110 (by decide) (by decide)) (hF178.1 111 (by decide) (by decide)))
                have hp189 : pm_w3 V173 := (pm_w3.fr hp168 (hF178.2 16 (by decide)) (hF178.2 46 (by decide)) (hF178.1 110 (by decide) (by decide)) (hF178.1 111 (by decide) (by decide)))
                have hp190 : pm_w2 V173 := (pm_w2.fr hg158 (hF178.2 16 (by decide)) (hF178.2 51 (by decide)) (hF178.1 112 (by decide) (by decide)))
                refine pm_i2l hC ⟨by omega, by omega⟩ dX12_draw_163 ?_
                refine pm_lstore (lv' := [(12, (1, y175)), (11, (0, (((100 * a2) + (10 * y70)) + y83))), (10, (0, (y122 - 99))), (9, (0, y109)), (8, (0, y96)), (7, (0, y83)), (6, (0, y70)), (0, (3, 90)), (1, (0, a1)), (2, (0, a2)), (3, (0, a3)), (4, (0, a4)), (5, (0, x46))]) hC dX12_draw_164 (by decide) rfl ?_
                have hs0 : pm_sum (V173 112) ((0 : Int)).toNat = 0 := rfl
                obtain ⟨hw21, hw22⟩ := hp190
                rw [e184] at hw21
                rw [e184, e181] at hw22
                refine pm_iconst (v := 0) hC dX12_draw_166 ?_
                refine pm_istore (lv' := [(14, (0, 0)), (12, (1, y175)), (11, (0, (((100 * a2) + (10 * y70)) + y83))), (10, (0, (y122 - 99))), (9, (0, y109)), (8, (0, y96)), (7, (0, y83)), (6, (0, y70)), (0, (3, 90)), (1, (0, a1)), (2, (0, a2)), (3, (0, a3)), (4, (0, a4)), (5, (0, x46))]) hC dX12_draw_167 (by decide) rfl ?_
                obtain ⟨B196, hB197, hb58⟩ := pf_loop hb58
                have L199 : ∀ (N201 : Nat) (x191 : Int) (x193 : Int), (0 ≤ x191 ∧ x191 ≤ 720000000) → (0 ≤ x193 ∧ x193 ≤ 9) → (x191 + pm_sum (V173 112) ((x193) : Int).toNat < y169) → B56 (x46, V48) = pf_val (.inr ((0 : Int), V0)) B196 (x191, x193) → (Int.toNat (9 - x193)) = N201 → pm_J X 169 [(0, (3, 90)), (1, (0, a1)), (2, (0, a2)), (3, (0, a3)), (4, (0, a4)), (5, (0, x46)), (6, (0, y70)), (7, (0, y83)), (8, (0, y96)), (9, (0, y109)), (10, (0, (y122 - 99))), (11, (0, (((100 * a2) + (10 * y70)) + y83))), (12, (1, x191)), (14, (0, x193))] [] 118 V173 := by
                  intro N201
                  induction N201 using Nat.strongRecOn with
                  | _ N201 ih202 =>
                  intro x191 x193 b192 b194 b195 hb58 hm200
                  have hb198 := congrFun hB197 (x191, x193)
                  have hlt : x193 < y1 := by
                    rcases Int.lt_or_le x193 y1 with q | q
                    · exact q
                    · have q1 := pm_sum_mono (f := V173 112) (n := (y1 : Int).toNat) (m := (x193 : Int).toNat) (by omega) (fun j hj => (hV177.get 112 j (lo := 0) (hi := 80000000) (t := 0) (by decide) (show j < 9 by omega) rfl).1)
                      omega
                  refine pm_lload hC 12 dX12_draw_169 rfl ?_
                  refine pm_aload_n hC 0 (by decide) dX12_draw_171 rfl ?_
                  have e203 : V173 90 50 = 112 := hV177.one 90 50 (by decide) (by decide) rfl
                  refine pm_getf (v := 112) hC 90 fl_X12_76 rfl rfl (by decide) rfl e203 dX12_draw_172 ?_
                  refine pm_iload hC 13 dX12_draw_175 rfl ?_
                  obtain ⟨y204, e205⟩ : ∃ y, V173 112 (x193 : Int).toNat = y := ⟨_, rfl⟩
                  replace hb198 := hb198.trans (pf_let_eq e205)
                  have b206 := hV177.get 112 (x193 : Int).toNat (lo := 0) (hi := 80000000) (t := 0) (by decide) (show _ < 9 by omega) rfl
                  rw [e205] at b206
                  refine pm_laload (len := 9) (v := y204) hC 112 rfl rfl (by decide) ⟨by omega, by omega⟩ (by decide) e205 dX12_draw_177 ?_
                  refine pm_lcmp hC ⟨by omega, by omega⟩ ⟨by omega, by omega⟩ dX12_draw_178 (fun y207 b208 => ?_)
                  replace hb198 := hb198.trans (pf_let_eq (pm_cmp_u b208))
                  refine pm_if_lt (tgt := 200) hC ⟨by omega, by omega⟩ dX12_draw_179 (by decide) (fun c209 => ?_) (fun c209 => ?_)
                  · skip
                    replace hb198 := hb198.trans (if_pos c209)
                    refine pm_aload_n hC 0 (by decide) dX12_draw_200 rfl ?_
                    refine pm_ldc2 (v := 1000) hC 7092 dX12_draw_201 (by decide +kernel) ?_
                    refine pm_callV (ci := 12) (as := [(1, 1000)]) (st := []) hC 90 (fB_X12_draws 1000 ⟨by decide, by decide⟩) lm_X12_476 li_X12_draws (by decide) (by decide) rfl rfl rfl (by decide) rfl rfl (Nat.le_of_ble_eq_true rfl) ⟨Nat.le_refl _, Or.inl rfl⟩ dX12_draw_204 ⟨rfl, hV177⟩ (fun r210 V211 hp212 => ?_)
                    obtain ⟨y213, rfl, b214, hV215, hF216, hE217⟩ := hp212
                    replace hb198 := hb198.trans (pf_call_eq hE217)
                    change pm_J X 207 [(0, (3, 90)), (1, (0, a1)), (2, (0, a2)), (3, (0, a3)), (4, (0, a4)), (5, (0, x46)), (6, (0, y70)), (7, (0, y83)), (8, (0, y96)), (9, (0, y109)), (10, (0, (y122 - 99))), (11, (0, (((100 * a2) + (10 * y70)) + y83))), (12, (1, x191)), (14, (0, x193))] [(0, y213)] 118 V211
                    have hF218 := pm_fs.tr hF180 hF216 (by decide) (by decide)
                    have e219 : V211 90 16 = y1 := by rw [hF216.2 16 (by decide)]; exact e181
                    have e220 : V211 90 42 = z147 := by rw [hF216.2 42 (by decide)]; exact e182
                    have e221 : V211 90 43 = z149 := by rw [hF216.2 43 (by decide)]; exact e183
                    have e222 : V211 90 51 = y169 := by rw [hF216.2 51 (by decide)]; exact e184
                    have e223 : V211 90 50 = 112 := by rw [hF216.2 50 (by decide)]; exact e203
                    have hp224 : pm_h1 V211 := (pm_h1.fr hp185 (hF216.2 16 (by decide)) (hF216.1 97 (by decide) (by decide)))
                    have hp225 : pm_h2 V211 := (pm_h2.fr hp186 (hF216.2 16 (by decide)) (hF216.2 21 (by decide)) (hF216.1 99 (by decide) (by decide)))
                    have hp226 : pm_h3 V211 := (pm_h3.fr hp187 (hF216.2 16 (by decide)) (hF216.2 25 (by decide)) (hF216.1 101 (by decide) (by decide)))
                    have hp227 : pm_w1 V211 := (pm_w1.fr hp188 (hF216.2 16 (by decide)) (hF216.2 48 (by decide)) (hF216.2 49 (by decide)) (hF216.1 110 (by decide) (by decide)) (hF216.1 111 (by decide) (by decide)))
                    have hp228 : pm_w3 V211 := (pm_w3.fr hp189 (hF216.2 16 (by decide)) (hF216.2 46 (by decide)) (hF216.1 110 (by decide) (by decide)) (hF216.1 111 (by decide) (by decide)))
                    have hp229 : pm_w2 V211 := (pm_w2.fr hp190 (hF216.2 16 (by decide)) (hF216.2 51 (by decide)) (hF216.1 112 (by decide) (by decide)))
                    refine pm_aload_n hC 0 (by decide) dX12_draw_207 rfl ?_
                    refine pm_callV (ci := 12) (as := []) (st := [(0, y213)]) hC 90 fB_X12_noticedNow lm_X12_396 li_X12_noticedNow (by decide) (by decide) rfl rfl rfl (by decide) rfl rfl (Nat.le_of_ble_eq_true rfl) ⟨Nat.le_refl _, Or.inl rfl⟩ dX12_draw_208 ⟨rfl, hV215⟩ (fun r230 V231 hp232 => ?_)
                    obtain ⟨y233, rfl, b234, rfl, hE235⟩ := hp232
                    replace hb198 := hb198.trans (pf_call_eq hE235)
                    change pm_J X 211 [(0, (3, 90)), (1, (0, a1)), (2, (0, a2)), (3, (0, a3)), (4, (0, a4)), (5, (0, x46)), (6, (0, y70)), (7, (0, y83)), (8, (0, y96)), (9, (0, y109)), (10, (0, (y122 - 99))), (11, (0, (((100 * a2) + (10 * y70)) + y83))), (12, (1, x191)), (14, (0, x193))] [(0, y233), (0, y213)] 118 V211
                    refine pm_icmp_ge (tgt := 218) hC ⟨by omega, by omega⟩ ⟨by omega, by omega⟩ dX12_draw_211 (by decide) (fun c236 => ?_) (fun c236 => ?_)
                    · skip
                      replace hb198 := hb198.trans (if_pos c236)
                      refine pm_iconst (v := 0) hC dX12_draw_218 ?_
                      refine pm_istore (lv' := [(15, (0, 0)), (0, (3, 90)), (1, (0, a1)), (2, (0, a2)), (3, (0, a3)), (4, (0, a4)), (5, (0, x46)), (6, (0, y70)), (7, (0, y83)), (8, (0, y96)), (9, (0, y109)), (10, (0, (y122 - 99))), (11, (0, (((100 * a2) + (10 * y70)) + y83))), (12, (1, x191)), (14, (0, x193))]) hC dX12_draw_219 (by decide) rfl ?_
                      refine pm_aload_n hC 1 (by decide) dX12_draw_221 rfl ?_
                      refine pm_iload hC 12 dX12_draw_222 rfl ?_
                      refine pm_bipush (v := 10) hC dX12_draw_224 (by decide) ?_
                      refine pm_iload hC 9 dX12_draw_226 rfl ?_
                      refine pm_imul hC dX12_draw_228 ?_
                      refine pm_iload hC 10 dX12_draw_229 rfl ?_
                      refine pm_iadd hC dX12_draw_231 ?_
                      refine pm_iload hC 11 dX12_draw_232 rfl ?_
                      refine pm_iload hC 14 dX12_draw_234 rfl ?_
                      refine pm_iload hC 0 dX12_draw_236 rfl ?_
                      refine pm_if_eq (tgt := 245) hC ⟨by decide, by decide⟩ dX12_draw_238 (by decide) (fun c237 => ?_) (fun c237 => ?_)
                      · skip
                        refine pm_iconst (v := 0) hC dX12_draw_245 ?_
                        refine pm_callV (ci := 12) (as := [(0, (((100 * a2) + (10 * y70)) + y83)), (0, ((10 * y96) + y109)), (0, (y122 - 99)), (0, x193), (0, 0)]) (st := []) hC 90 (fB_X12_keepsAnswer (((100 * a2) + (10 * y70)) + y83) ((10 * y96) + y109) (y122 - 99) x193 0 ⟨by omega, by omega⟩ ⟨by omega, by omega⟩ ⟨by omega, by omega⟩ ⟨by omega, by omega⟩ ⟨by decide, by decide⟩ (by omega)) lm_X12_399 li_X12_keepsAnswer (by decide) (by decide) rfl rfl rfl (by decide) rfl rfl (Nat.le_of_ble_eq_true rfl) ⟨Nat.le_refl _, Or.inl rfl⟩ dX12_draw_246 ⟨rfl, hV215, (show ((((100 * a2) + (10 * y70)) + y83)) % 10 < V211 90 16 by omega), (show ((((100 * a2) + (10 * y70)) + y83)) / 10 % 10 < V211 90 16 by omega), (show (x193) < V211 90 16 by omega), (show V211 90 25 ≤ 59 by omega), hp226⟩ (fun r238 V239 hp240 => ?_)
                        obtain ⟨rfl, hV241, hF242, hg243, hE244⟩ := hp240
                        replace hb198 := hb198.trans (pf_call_eq hE244)
                        change pm_J X 249 [(15, (0, 0)), (0, (3, 90)), (1, (0, a1)), (2, (0, a2)), (3, (0, a3)), (4, (0, a4)), (5, (0, x46)), (6, (0, y70)), (7, (0, y83)), (8, (0, y96)), (9, (0, y109)), (10, (0, (y122 - 99))), (11, (0, (((100 * a2) + (10 * y70)) + y83))), (12, (1, x191)), (14, (0, x193))] [] 118 V239
                        have hF245 := pm_fs.tr hF218 hF242 (by decide) (by decide)
                        have e246 : V239 90 16 = y1 := by rw [hF242.2 16 (by decide)]; exact e219
                        have e247 : V239 90 42 = z147 := by rw [hF242.2 42 (by decide)]; exact e220
                        have e248 : V239 90 43 = z149 := by rw [hF242.2 43 (by decide)]; exact e221
                        have e249 : V239 90 51 = y169 := by rw [hF242.2 51 (by decide)]; exact e222
                        have e250 : V239 90 50 = 112 := by rw [hF242.2 50 (by decide)]; exact e223
                        have hp251 : pm_h1 V239 := (pm_h1.fr hp224 (hF242.2 16 (by decide)) (hF242.1 97 (by decide) (by decide)))
                        have hp252 : pm_h2 V239 := (pm_h2.fr hp225 (hF242.2 16 (by decide)) (hF242.2 21 (by decide)) (hF242.1 99 (by decide) (by decide)))
                        have hp253 : pm_w1 V239 := (pm_w1.fr hp227 (hF242.2 16 (by decide)) (hF242.2 48 (by decide)) (hF242.2 49 (by decide)) (hF242.1 110 (by decide) (by decide)) (hF242.1 111 (by decide) (by decide)))
                        have hp254 : pm_w3 V239 := (pm_w3.fr hp228 (hF242.2 16 (by decide)) (hF242.2 46 (by decide)) (hF242.1 110 (by decide) (by decide)) (hF242.1 111 (by decide) (by decide)))
                        have hp255 : pm_w2 V239 := (pm_w2.fr hp229 (hF242.2 16 (by decide)) (hF242.2 51 (by decide)) (hF242.1 112 (by decide) (by decide)))
                        obtain ⟨x256, ei257⟩ : ∃ y : Int, x46 + 1 = y := ⟨_, rfl⟩
                        replace hb198 := hb198.trans (pf_let_eq ei257)
                        refine pm_iinc (y := x256) (lv' := [(5, (0, x256)), (15, (0, 0)), (0, (3, 90)), (1, (0, a1)), (2, (0, a2)), (3, (0, a3)), (4, (0, a4)), (6, (0, y70)), (7, (0, y83)), (8, (0, y96)), (9, (0, y109)), (10, (0, (y122 - 99))), (11, (0, (((100 * a2) + (10 * y70)) + y83))), (12, (1, x191)), (14, (0, x193))]) hC 6 dX12_draw_249 (by decide) rfl ei257 rfl ?_
                        refine pm_goto (tgt := 60) hC dX12_draw_252 (by decide) ?_
                        obtain ⟨y258, e259⟩ : ∃ y, V239 90 25 = y := ⟨_, rfl⟩
                        have b260 := hV241.get 90 25 (lo := 0) (hi := 60) (by decide) (by decide) rfl
                        rw [e259] at b260
                        replace hb198 := hb198.trans (pf_let_eq e259)
                        have hb58 := hb58.trans (pf_val_inr hb198)
                        refine pm_lvsub [2, 3, 4, 5, 6, 0] (lv' := [(0, (3, 90)), (1, (0, a1)), (2, (0, a2)), (3, (0, a3)), (4, (0, a4)), (5, (0, x256))]) rfl ?_
                        exact ih62 _ (by omega) x256 V239 ⟨by omega, by omega⟩ hV241 hF245 e246 hp251 hp252 hg243 (by (have e : V239 90 25 = y258 := e259); rw [e]; omega) (hT.trans (pf_val_inl hb58)) rfl
                      · skip
                        exfalso; omega
                    · skip
                      replace hb198 := hb198.trans (if_neg (Int.not_le.mpr c236))
                      refine pm_iconst (v := 1) hC dX12_draw_214 ?_
                      refine pm_goto (tgt := 219) hC dX12_draw_215 (by decide) ?_
                      refine pm_istore (lv' := [(15, (0, 1)), (0, (3, 90)), (1, (0, a1)), (2, (0, a2)), (3, (0, a3)), (4, (0, a4)), (5, (0, x46)), (6, (0, y70)), (7, (0, y83)), (8, (0, y96)), (9, (0, y109)), (10, (0, (y122 - 99))), (11, (0, (((100 * a2) + (10 * y70)) + y83))), (12, (1, x191)), (14, (0, x193))]) hC dX12_draw_219 (by decide) rfl ?_
                      refine pm_aload_n hC 1 (by decide) dX12_draw_221 rfl ?_
                      refine pm_iload hC 12 dX12_draw_222 rfl ?_
                      refine pm_bipush (v := 10) hC dX12_draw_224 (by decide) ?_
                      refine pm_iload hC 9 dX12_draw_226 rfl ?_
                      refine pm_imul hC dX12_draw_228 ?_
                      refine pm_iload hC 10 dX12_draw_229 rfl ?_
                      refine pm_iadd hC dX12_draw_231 ?_
                      refine pm_iload hC 11 dX12_draw_232 rfl ?_
                      refine pm_iload hC 14 dX12_draw_234 rfl ?_
                      refine pm_iload hC 0 dX12_draw_236 rfl ?_
                      refine pm_if_eq (tgt := 245) hC ⟨by decide, by decide⟩ dX12_draw_238 (by decide) (fun c261 => ?_) (fun c261 => ?_)
                      · skip
                        exfalso; omega
                      · skip
                        refine pm_iconst (v := 1) hC dX12_draw_241 ?_
                        refine pm_goto (tgt := 246) hC dX12_draw_242 (by decide) ?_
                        refine pm_callV (ci := 12) (as := [(0, (((100 * a2) + (10 * y70)) + y83)), (0, ((10 * y96) + y109)), (0, (y122 - 99)), (0, x193), (0, 1)]) (st := []) hC 90 (fB_X12_keepsAnswer (((100 * a2) + (10 * y70)) + y83) ((10 * y96) + y109) (y122 - 99) x193 1 ⟨by omega, by omega⟩ ⟨by omega, by omega⟩ ⟨by omega, by omega⟩ ⟨by omega, by omega⟩ ⟨by decide, by decide⟩ (by omega)) lm_X12_399 li_X12_keepsAnswer (by decide) (by decide) rfl rfl rfl (by decide) rfl rfl (Nat.le_of_ble_eq_true rfl) ⟨Nat.le_refl _, Or.inl rfl⟩ dX12_draw_246 ⟨rfl, hV215, (show ((((100 * a2) + (10 * y70)) + y83)) % 10 < V211 90 16 by omega), (show ((((100 * a2) + (10 * y70)) + y83)) / 10 % 10 < V211 90 16 by omega), (show (x193) < V211 90 16 by omega), (show V211 90 25 ≤ 59 by omega), hp226⟩ (fun r262 V263 hp264 => ?_)
                        obtain ⟨rfl, hV265, hF266, hg267, hE268⟩ := hp264
                        replace hb198 := hb198.trans (pf_call_eq hE268)
                        change pm_J X 249 [(15, (0, 1)), (0, (3, 90)), (1, (0, a1)), (2, (0, a2)), (3, (0, a3)), (4, (0, a4)), (5, (0, x46)), (6, (0, y70)), (7, (0, y83)), (8, (0, y96)), (9, (0, y109)), (10, (0, (y122 - 99))), (11, (0, (((100 * a2) + (10 * y70)) + y83))), (12, (1, x191)), (14, (0, x193))] [] 118 V263
                        have hF269 := pm_fs.tr hF218 hF266 (by decide) (by decide)
                        have e270 : V263 90 16 = y1 := by rw [hF266.2 16 (by decide)]; exact e219
                        have e271 : V263 90 42 = z147 := by rw [hF266.2 42 (by decide)]; exact e220
                        have e272 : V263 90 43 = z149 := by rw [hF266.2 43 (by decide)]; exact e221
                        have e273 : V263 90 51 = y169 := by rw [hF266.2 51 (by decide)]; exact e222
                        have e274 : V263 90 50 = 112 := by rw [hF266.2 50 (by decide)]; exact e223
                        have hp275 : pm_h1 V263 := (pm_h1.fr hp224 (hF266.2 16 (by decide)) (hF266.1 97 (by decide) (by decide)))
                        have hp276 : pm_h2 V263 := (pm_h2.fr hp225 (hF266.2 16 (by decide)) (hF266.2 21 (by decide)) (hF266.1 99 (by decide) (by decide)))
                        have hp277 : pm_w1 V263 := (pm_w1.fr hp227 (hF266.2 16 (by decide)) (hF266.2 48 (by decide)) (hF266.2 49 (by decide)) (hF266.1 110 (by decide) (by decide)) (hF266.1 111 (by decide) (by decide)))
                        have hp278 : pm_w3 V263 := (pm_w3.fr hp228 (hF266.2 16 (by decide)) (hF266.2 46 (by decide)) (hF266.1 110 (by decide) (by decide)) (hF266.1 111 (by decide) (by decide)))
                        have hp279 : pm_w2 V263 := (pm_w2.fr hp229 (hF266.2 16 (by decide)) (hF266.2 51 (by decide)) (hF266.1 112 (by decide) (by decide)))
                        obtain ⟨x280, ei281⟩ : ∃ y : Int, x46 + 1 = y := ⟨_, rfl⟩
                        replace hb198 := hb198.trans (pf_let_eq ei281)
                        refine pm_iinc (y := x280) (lv' := [(5, (0, x280)), (15, (0, 1)), (0, (3, 90)), (1, (0, a1)), (2, (0, a2)), (3, (0, a3)), (4, (0, a4)), (6, (0, y70)), (7, (0, y83)), (8, (0, y96)), (9, (0, y109)), (10, (0, (y122 - 99))), (11, (0, (((100 * a2) + (10 * y70)) + y83))), (12, (1, x191)), (14, (0, x193))]) hC 6 dX12_draw_249 (by decide) rfl ei281 rfl ?_
                        refine pm_goto (tgt := 60) hC dX12_draw_252 (by decide) ?_
                        obtain ⟨y282, e283⟩ : ∃ y, V263 90 25 = y := ⟨_, rfl⟩
                        have b284 := hV265.get 90 25 (lo := 0) (hi := 60) (by decide) (by decide) rfl
                        rw [e283] at b284
                        replace hb198 := hb198.trans (pf_let_eq e283)
                        have hb58 := hb58.trans (pf_val_inr hb198)
                        refine pm_lvsub [2, 3, 4, 5, 6, 0] (lv' := [(0, (3, 90)), (1, (0, a1)), (2, (0, a2)), (3, (0, a3)), (4, (0, a4)), (5, (0, x280))]) rfl ?_
                        exact ih62 _ (by omega) x280 V263 ⟨by omega, by omega⟩ hV265 hF269 e270 hp275 hp276 hg267 (by (have e : V263 90 25 = y282 := e283); rw [e]; omega) (hT.trans (pf_val_inl hb58)) rfl
                  · skip
                    replace hb198 := hb198.trans (if_neg (Int.not_lt.mpr c209))
                    refine pm_lload hC 12 dX12_draw_182 rfl ?_
                    refine pm_aload_n hC 0 (by decide) dX12_draw_184 rfl ?_
                    refine pm_getf (v := 112) hC 90 fl_X12_76 rfl rfl (by decide) rfl e203 dX12_draw_185 ?_
                    refine pm_iload hC 13 dX12_draw_188 rfl ?_
                    refine pm_laload (len := 9) (v := y204) hC 112 rfl rfl (by decide) ⟨by omega, by omega⟩ (by decide) e205 dX12_draw_190 ?_
                    refine pm_lsub hC dX12_draw_191 ?_
                    refine pm_lstore (lv' := [(12, (1, (x191 - y204))), (0, (3, 90)), (1, (0, a1)), (2, (0, a2)), (3, (0, a3)), (4, (0, a4)), (5, (0, x46)), (6, (0, y70)), (7, (0, y83)), (8, (0, y96)), (9, (0, y109)), (10, (0, (y122 - 99))), (11, (0, (((100 * a2) + (10 * y70)) + y83))), (14, (0, x193))]) hC dX12_draw_192 (by decide) rfl ?_
                    obtain ⟨x285, ei286⟩ : ∃ y : Int, x193 + 1 = y := ⟨_, rfl⟩
                    replace hb198 := hb198.trans (pf_let_eq ei286)
                    refine pm_iinc (y := x285) (lv' := [(14, (0, x285)), (12, (1, (x191 - y204))), (0, (3, 90)), (1, (0, a1)), (2, (0, a2)), (3, (0, a3)), (4, (0, a4)), (5, (0, x46)), (6, (0, y70)), (7, (0, y83)), (8, (0, y96)), (9, (0, y109)), (10, (0, (y122 - 99))), (11, (0, (((100 * a2) + (10 * y70)) + y83)))]) hC 13 dX12_draw_194 (by decide) rfl ei286 rfl ?_
                    have hs1 : pm_sum (V173 112) (x285 : Int).toNat = pm_sum (V173 112) (x193 : Int).toNat + y204 := by
                      rw [show (x285 : Int).toNat = (x193 : Int).toNat + 1 by omega]
                      show pm_sum (V173 112) (x193 : Int).toNat + V173 112 (x193 : Int).toNat = _
                      rw [e205]
                    refine pm_goto (tgt := 169) hC dX12_draw_197 (by decide) ?_
                    refine pm_lvsub [2, 3, 4, 5, 6, 7, 8, 9, 10, 11, 12, 13, 1, 0] (lv' := [(0, (3, 90)), (1, (0, a1)), (2, (0, a2)), (3, (0, a3)), (4, (0, a4)), (5, (0, x46)), (6, (0, y70)), (7, (0, y83)), (8, (0, y96)), (9, (0, y109)), (10, (0, (y122 - 99))), (11, (0, (((100 * a2) + (10 * y70)) + y83))), (12, (1, (x191 - y204))), (14, (0, x285))]) rfl ?_
                    exact ih202 _ (by omega) (x191 - y204) x285 ⟨by omega, by omega⟩ ⟨by omega, by omega⟩ (by omega) (hb58.trans (pf_val_inl hb198)) rfl
                refine pm_lvsub [8, 9, 10, 11, 12, 13, 7, 6, 5, 4, 3, 2, 1, 0] (lv' := [(0, (3, 90)), (1, (0, a1)), (2, (0, a2)), (3, (0, a3)), (4, (0, a4)), (5, (0, x46)), (6, (0, y70)), (7, (0, y83)), (8, (0, y96)), (9, (0, y109)), (10, (0, (y122 - 99))), (11, (0, (((100 * a2) + (10 * y70)) + y83))), (12, (1, y175)), (14, (0, 0))]) rfl ?_
                exact L199 _ y175 0 ⟨by omega, by omega⟩ ⟨by decide, by decide⟩ (by omega) hb58 rfl
            refine pm_lvsub [1, 2, 3, 4, 5, 0] (lv' := [(0, (3, 90)), (1, (0, a1)), (2, (0, a2)), (3, (0, a3)), (4, (0, a4)), (5, (0, 0))]) rfl ?_
            exact L59 _ 0 V36 ⟨by decide, by decide⟩ hV38 hF39 e40 hp43 hp44 hp45 (by (have e : V36 90 25 = y4 := e41); rw [e]; omega) hT rfl
          · skip
            replace hT := hT.trans (if_neg (Int.not_le.mpr c35))
            refine pm_iconst (v := (-1)) hC dX12_draw_49 ?_
            exact pm_iret hC hR pm_nar0 ⟨(-1), rfl, ⟨by omega, by omega⟩, hV0, (pm_fs.rf (cs := [101, 110, 111, 112]) (fs := [25, 42, 43, 44, 45, 46, 47, 48, 49, 51, 57]) (V := V0)), hn_pm_h3, hT⟩ dX12_draw_50
