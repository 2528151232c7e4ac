noncomputable def F_X12_draw (a1 a2 a3 a4 : Int) (V0 : pm_M) : Int × pm_M := pf_let (V0 90 16) fun y1 => pf_let (V0 90 25) fun y4 => pf_call (F_X12_isLaw a1 V0) fun y10 _ => (if y10 = 0 then (((-1), V0)) else (pf_call (F_X12_isPerson a2 V0) fun y17 _ => (if y17 = 0 then (((-1), V0)) else (pf_call (F_X12_in a3 0 1000000 V0) fun y24 _ => (if y24 = 0 then (((-1), V0)) else (pf_call (F_X12_in a4 1 20 V0) fun y31 _ => (if y31 = 0 then (((-1), V0)) else ((if (y4 + a4) ≤ 60 then (pf_let ((pm_up V0 90 57 a3)) fun V36 => pf_val ((0 : Int), V0) (fun (q : Int × pm_M) => match q with | (x46, V48) => (pf_let (V48 90 25) fun y63 => (if a4 ≤ x46 then ((.inr (y63, V48))) else (pf_call (F_X12_draws y1 V48) fun y70 V68 => pf_call (F_X12_draws y1 V68) fun y84 V82 => pf_call (F_X12_draws 10 V82) fun y98 V96 => pf_call (F_X12_draws 10 V96) fun y112 V110 => pf_call (F_X12_draws 199 V110) fun y126 V124 => pf_let ((((100 * a2) + (10 * y70)) + y84)) fun w137 => pf_call (F_X12_works w137 ((10 * y98) + y112) (y126 - 99) V124) fun _ V140 => pf_let (V140 90 42) fun z155 => pf_let (V140 90 43) fun z157 => pf_call (F_X12_weighs a1 V140) fun _ V160 => pf_let (V160 90 51) fun y178 => pf_call (F_X12_draws y178 V160) fun y185 V183 => pf_val (.inr ((0 : Int), V0)) (fun (q : Int × Int) => match q with | (x202, x204) => (pf_let (V183 112 (x204 : Int).toNat) fun y215 => pf_let (pm_cmp x202 y215) fun y218 => (if y218 < 0 then (pf_call (F_X12_draws 1000 V183) fun y224 V222 => pf_call (F_X12_noticedNow  V222) fun y245 _ => (if y245 ≤ y224 then (pf_call (F_X12_keepsAnswer w137 ((10 * y98) + y112) (y126 - 99) x204 0 V222) fun _ V251 => pf_let (x46 + 1) fun x269 => pf_let (V251 90 25) fun y271 => (.inr (.inl (x269, V251)))) else (pf_call (F_X12_keepsAnswer w137 ((10 * y98) + y112) (y126 - 99) x204 1 V222) fun _ V276 => pf_let (x46 + 1) fun x294 => pf_let (V276 90 25) fun y296 => (.inr (.inl (x294, V276)))))) else (pf_let (x204 + 1) fun x299 => (.inl ((x202 - y215), x299)))))) (y185, 0))))) (0, V36)) else (((-1), V0)))))))))))
theorem F_X12_draw_eq (a1 a2 a3 a4 : Int) (V0 : pm_M) : F_X12_draw a1 a2 a3 a4 V0 = pf_let (V0 90 16) fun y1 => pf_let (V0 90 25) fun y4 => pf_call (F_X12_isLaw a1 V0) fun y10 _ => (if y10 = 0 then (((-1), V0)) else (pf_call (F_X12_isPerson a2 V0) fun y17 _ => (if y17 = 0 then (((-1), V0)) else (pf_call (F_X12_in a3 0 1000000 V0) fun y24 _ => (if y24 = 0 then (((-1), V0)) else (pf_call (F_X12_in a4 1 20 V0) fun y31 _ => (if y31 = 0 then (((-1), V0)) else ((if (y4 + a4) ≤ 60 then (pf_let ((pm_up V0 90 57 a3)) fun V36 => pf_val ((0 : Int), V0) (fun (q : Int × pm_M) => match q with | (x46, V48) => (pf_let (V48 90 25) fun y63 => (if a4 ≤ x46 then ((.inr (y63, V48))) else (pf_call (F_X12_draws y1 V48) fun y70 V68 => pf_call (F_X12_draws y1 V68) fun y84 V82 => pf_call (F_X12_draws 10 V82) fun y98 V96 => pf_call (F_X12_draws 10 V96) fun y112 V110 => pf_call (F_X12_draws 199 V110) fun y126 V124 => pf_let ((((100 * a2) + (10 * y70)) + y84)) fun w137 => pf_call (F_X12_works w137 ((10 * y98) + y112) (y126 - 99) V124) fun _ V140 => pf_let (V140 90 42) fun z155 => pf_let (V140 90 43) fun z157 => pf_call (F_X12_weighs a1 V140) fun _ V160 => pf_let (V160 90 51) fun y178 => pf_call (F_X12_draws y178 V160) fun y185 V183 => pf_val (.inr ((0 : Int), V0)) (fun (q : Int × Int) => match q with | (x202, x204) => (pf_let (V183 112 (x204 : Int).toNat) fun y215 => pf_let (pm_cmp x202 y215) fun y218 => (if y218 < 0 then (pf_call (F_X12_draws 1000 V183) fun y224 V222 => pf_call (F_X12_noticedNow  V222) fun y245 _ => (if y245 ≤ y224 then (pf_call (F_X12_keepsAnswer w137 ((10 * y98) + y112) (y126 - 99) x204 0 V222) fun _ V251 => pf_let (x46 + 1) fun x269 => pf_let (V251 90 25) fun y271 => (.inr (.inl (x269, V251)))) else (pf_call (F_X12_keepsAnswer w137 ((10 * y98) + y112) (y126 - 99) x204 1 V222) fun _ V276 => pf_let (x46 + 1) fun x294 => pf_let (V276 90 25) fun y296 => (.inr (.inl (x294, V276)))))) else (pf_let (x204 + 1) fun x299 => (.inl ((x202 - y215), x299)))))) (y185, 0))))) (0, V36)) else (((-1), V0))))))))))) := rfl
set_option maxHeartbeats 4000000 in
set_option maxRecDepth 100000 in
theorem fB_X12_draw (a1 a2 a3 a4 : Int) (h0 : (-2147483648) ≤ a1 ∧ a1 ≤ 2147483647) (h1 : (-2147483648) ≤ a2 ∧ a2 ≤ 2147483647) (h2 : (-2147483648) ≤ a3 ∧ a3 ≤ 2147483647) (h3 : (-2147483648) ≤ a4 ∧ a4 ≤ 2147483647) : pm_K 4 yX12_draw cX12_draw 16 (some .int) (fun av V => av = [(3, 90), (0, a1), (0, a2), (0, a3), (0, a4)] ∧ pm_oq pm_qB V ∧ pm_h1 V ∧ pm_h2 V ∧ pm_h3 V) (fun _ V r V' => ∃ y, r = some (0, y) ∧ ((-1) ≤ y ∧ y ≤ 60) ∧ pm_oq pm_qB V' ∧ pm_fs [101, 110, 111, 112] [25, 42, 43, 44, 45, 46, 47, 48, 49, 51, 57] V V' ∧ pm_h3 V' ∧ F_X12_draw a1 a2 a3 a4 V = (y, V')) := by
  refine pm_MT.of (by decide) ⟨Nat.le_refl _, by decide⟩ (fun av V h => by rw [h.1]; exact (by decide : pm_words [(3, 0), (0, 0), (0, 0), (0, 0), (0, 0)] ≤ 16)) ?_
  rintro X av V0 hC - hR ⟨rfl, hV0, hn_pm_h1, hn_pm_h2, hn_pm_h3⟩
  change pm_J X 0 [(0, (3, 90)), (1, (0, a1)), (2, (0, a2)), (3, (0, a3)), (4, (0, a4))] [] 118 V0
  have hT := F_X12_draw_eq a1 a2 a3 a4 V0
  obtain ⟨y1, e2⟩ : ∃ y, V0 90 16 = y := ⟨_, rfl⟩
  have b3 := hV0.get 90 16 (lo := 2) (hi := 9) (by decide) (by decide) rfl
  rw [e2] at b3
  replace hT := hT.trans (pf_let_eq e2)
  obtain ⟨y4, e5⟩ : ∃ y, V0 90 25 = y := ⟨_, rfl⟩
  have b6 := hV0.get 90 25 (lo := 0) (hi := 60) (by decide) (by decide) rfl
  rw [e5] at b6
  replace hT := hT.trans (pf_let_eq e5)
  refine pm_iload_n hC 1 dX12_draw_0 rfl ?_
  refine pm_callS (as := [(0, a1)]) (st := []) hC (fB_X12_isLaw a1 ⟨by omega, by omega⟩) lm_X12_370 ls_X12_isLaw (by decide) (by decide) rfl rfl (Nat.le_of_ble_eq_true rfl) ⟨Nat.le_refl _, Or.inl rfl⟩ dX12_draw_1 ⟨rfl, hV0⟩ (fun r7 V8 hp9 => ?_)
  obtain ⟨y10, rfl, b11, rfl, hE12⟩ := hp9
  replace hT := hT.trans (pf_call_eq hE12)
  change pm_J X 4 [(0, (3, 90)), (1, (0, a1)), (2, (0, a2)), (3, (0, a3)), (4, (0, a4))] [(0, y10)] 118 V0
  refine pm_if_eq (tgt := 49) hC ⟨by omega, by omega⟩ dX12_draw_4 (by decide) (fun c13 => ?_) (fun c13 => ?_)
  · skip
    replace hT := hT.trans (if_pos c13)
    refine pm_iconst (v := (-1)) hC dX12_draw_49 ?_
    exact pm_iret hC hR pm_nar0 ⟨(-1), rfl, ⟨by omega, by omega⟩, hV0, (pm_fs.rf (cs := [101, 110, 111, 112]) (fs := [25, 42, 43, 44, 45, 46, 47, 48, 49, 51, 57]) (V := V0)), hn_pm_h3, hT⟩ dX12_draw_50
  · skip
    replace hT := hT.trans (if_neg c13)
    refine pm_aload_n hC 0 (by decide) dX12_draw_7 rfl ?_
    refine pm_iload_n hC 2 dX12_draw_8 rfl ?_
    refine pm_callV (ci := 12) (as := [(0, a2)]) (st := []) hC 90 (fB_X12_isPerson a2 ⟨by omega, by omega⟩) lm_X12_302 li_X12_isPerson (by decide) (by decide) rfl rfl rfl (by decide) rfl rfl (Nat.le_of_ble_eq_true rfl) ⟨Nat.le_refl _, Or.inl rfl⟩ dX12_draw_9 ⟨rfl, hV0⟩ (fun r14 V15 hp16 => ?_)
    obtain ⟨y17, rfl, b18, rfl, hE19⟩ := hp16
    replace hT := hT.trans (pf_call_eq hE19)
    change pm_J X 12 [(0, (3, 90)), (1, (0, a1)), (2, (0, a2)), (3, (0, a3)), (4, (0, a4))] [(0, y17)] 118 V0
    refine pm_if_eq (tgt := 49) hC ⟨by omega, by omega⟩ dX12_draw_12 (by decide) (fun c20 => ?_) (fun c20 => ?_)
    · skip
      replace hT := hT.trans (if_pos c20)
      refine pm_iconst (v := (-1)) hC dX12_draw_49 ?_
      exact pm_iret hC hR pm_nar0 ⟨(-1), rfl, ⟨by omega, by omega⟩, hV0, (pm_fs.rf (cs := [101, 110, 111, 112]) (fs := [25, 42, 43, 44, 45, 46, 47, 48, 49, 51, 57]) (V := V0)), hn_pm_h3, hT⟩ dX12_draw_50
    · skip
      replace hT := hT.trans (if_neg c20)
      refine pm_iload_n hC 3 dX12_draw_15 rfl ?_
      refine pm_iconst (v := 0) hC dX12_draw_16 ?_
      refine pm_ldcw (v := 1000000) hC 8023 dX12_draw_17 (by decide +kernel) ?_
      refine pm_callS (as := [(0, a3), (0, 0), (0, 1000000)]) (st := []) hC (fB_X12_in a3 0 1000000 ⟨by omega, by omega⟩ ⟨by decide, by decide⟩ ⟨by decide, by decide⟩) lm_X12_98 ls_X12_in (by decide) (by decide) rfl rfl (Nat.le_of_ble_eq_true rfl) ⟨Nat.le_refl _, Or.inl rfl⟩ dX12_draw_20 ⟨rfl, hV0⟩ (fun r21 V22 hp23 => ?_)
      obtain ⟨y24, rfl, b25, rfl, hE26⟩ := hp23
      replace hT := hT.trans (pf_call_eq hE26)
      change pm_J X 23 [(0, (3, 90)), (1, (0, a1)), (2, (0, a2)), (3, (0, a3)), (4, (0, a4))] [(0, y24)] 118 V0
      refine pm_if_eq (tgt := 49) hC ⟨by omega, by omega⟩ dX12_draw_23 (by decide) (fun c27 => ?_) (fun c27 => ?_)
      · skip
        replace hT := hT.trans (if_pos c27)
        refine pm_iconst (v := (-1)) hC dX12_draw_49 ?_
        exact pm_iret hC hR pm_nar0 ⟨(-1), rfl, ⟨by omega, by omega⟩, hV0, (pm_fs.rf (cs := [101, 110, 111, 112]) (fs := [25, 42, 43, 44, 45, 46, 47, 48, 49, 51, 57]) (V := V0)), hn_pm_h3, hT⟩ dX12_draw_50
      · skip
        replace hT := hT.trans (if_neg c27)
        refine pm_iload hC 4 dX12_draw_26 rfl ?_
        refine pm_iconst (v := 1) hC dX12_draw_28 ?_
        refine pm_bipush (v := 20) hC dX12_draw_29 (by decide) ?_
        refine pm_callS (as := [(0, a4), (0, 1), (0, 20)]) (st := []) hC (fB_X12_in a4 1 20 ⟨by omega, by omega⟩ ⟨by decide, by decide⟩ ⟨by decide, by decide⟩) lm_X12_98 ls_X12_in (by decide) (by decide) rfl rfl (Nat.le_of_ble_eq_true rfl) ⟨Nat.le_refl _, Or.inl rfl⟩ dX12_draw_31 ⟨rfl, hV0⟩ (fun r28 V29 hp30 => ?_)
        obtain ⟨y31, rfl, b32, rfl, hE33⟩ := hp30
        replace hT := hT.trans (pf_call_eq hE33)
        change pm_J X 34 [(0, (3, 90)), (1, (0, a1)), (2, (0, a2)), (3, (0, a3)), (4, (0, a4))] [(0, y31)] 118 V0
        refine pm_if_eq (tgt := 49) hC ⟨by omega, by omega⟩ dX12_draw_34 (by decide) (fun c34 => ?_) (fun c34 => ?_)
        · skip
          replace hT := hT.trans (if_pos c34)
          refine pm_iconst (v := (-1)) hC dX12_draw_49 ?_
          exact pm_iret hC hR pm_nar0 ⟨(-1), rfl, ⟨by omega, by omega⟩, hV0, (pm_fs.rf (cs := [101, 110, 111, 112]) (fs := [25, 42, 43, 44, 45, 46, 47, 48, 49, 51, 57]) (V := V0)), hn_pm_h3, hT⟩ dX12_draw_50
        · skip
          replace hT := hT.trans (if_neg c34)
          refine pm_aload_n hC 0 (by decide) dX12_draw_37 rfl ?_
          refine pm_getf (v := y4) hC 90 fl_X12_235 rfl rfl (by decide) rfl e5 dX12_draw_38 ?_
          refine pm_iload hC 4 dX12_draw_41 rfl ?_
          refine pm_iadd hC dX12_draw_43 ?_
          refine pm_bipush (v := 60) hC dX12_draw_44 (by decide) ?_
          refine pm_icmp_le (tgt := 51) hC ⟨by omega, by omega⟩ ⟨by decide, by decide⟩ dX12_draw_46 (by decide) (fun c35 => ?_) (fun c35 => ?_)
          · skip
            replace hT := hT.trans (if_pos c35)
            refine pm_aload_n hC 0 (by decide) dX12_draw_51 rfl ?_
            refine pm_iload_n hC 3 dX12_draw_52 rfl ?_
            refine pm_i2l hC ⟨by omega, by omega⟩ dX12_draw_53 ?_
            refine pm_putf hC 90 fl_X12_464 rfl rfl rfl (by decide) rfl trivial dX12_draw_54 ?_
            refine pm_iconst (v := 0) hC dX12_draw_57 ?_
            refine pm_istore (lv' := [(5, (0, 0)), (0, (3, 90)), (1, (0, a1)), (2, (0, a2)), (3, (0, a3)), (4, (0, a4))]) hC dX12_draw_58 (by decide) rfl ?_
            have hV38 := (hV0.put 90 57 (x := a3) (lo := (-9223372036854775808)) (hi := 9223372036854775807) rfl ⟨by omega, by omega⟩)
            have hF39 := ((pm_fs.rf (cs := [101, 110, 111, 112]) (fs := [25, 42, 43, 44, 45, 46, 47, 48, 49, 51, 57]) (V := V0)).upf 57 a3 rfl)
            obtain ⟨V36, hv37⟩ : ∃ V, V = (pm_up V0 90 57 a3) := ⟨_, rfl⟩
            rw [← hv37] at hV38 hF39
            rw [← hv37]
            replace hT := hT.trans (pf_let_eq hv37.symm)
            have e40 : V36 90 16 = y1 := by rw [hv37]; exact e2
            have e41 : V36 90 25 = y4 := by rw [hv37]; exact e5
            have e42 : V36 90 57 = a3 := by rw [hv37]; rfl
            have hp43 : pm_h1 V36 := by rw [hv37]; exact (pm_h1.fr hn_pm_h1 rfl rfl)
            have hp44 : pm_h2 V36 := by rw [hv37]; exact (pm_h2.fr hn_pm_h2 rfl rfl rfl)
            have hp45 : pm_h3 V36 := by rw [hv37]; exact (pm_h3.fr hn_pm_h3 rfl rfl rfl)
            obtain ⟨B56, hB57, hT⟩ := pf_loop hT
            have L59 : ∀ (N61 : Nat) (x46 : Int) (V48 : pm_M), (0 ≤ x46 ∧ x46 ≤ 20) → pm_oq pm_qB V48 → pm_fs [101, 110, 111, 112] [25, 42, 43, 44, 45, 46, 47, 48, 49, 51, 57] V0 V48 → V48 90 16 = y1 → pm_h1 V48 → pm_h2 V48 → pm_h3 V48 → (V48 90 25 = y4 + x46) → F_X12_draw a1 a2 a3 a4 V0 = pf_val ((0 : Int), V0) B56 (x46, V48) → (Int.toNat (20 - x46)) = N61 → pm_J X 60 [(0, (3, 90)), (1, (0, a1)), (2, (0, a2)), (3, (0, a3)), (4, (0, a4)), (5, (0, x46))] [] 118 V48 := by
              intro N61
              induction N61 using Nat.strongRecOn with
              | _ N61 ih62 =>
              intro x46 V48 b47 hV49 hF50 e51 hp52 hp53 hp54 hm55 hT hm60
              have hb58 := congrFun hB57 (x46, V48)
              obtain ⟨y63, e64⟩ : ∃ y, V48 90 25 = y := ⟨_, rfl⟩
              have b65 := hV49.get 90 25 (lo := 0) (hi := 60) (by decide) (by decide) rfl
              rw [e64] at b65
              replace hb58 := hb58.trans (pf_let_eq e64)
              refine pm_iload hC 5 dX12_draw_60 rfl ?_
              refine pm_iload hC 4 dX12_draw_62 rfl ?_
              refine pm_icmp_ge (tgt := 255) hC ⟨by omega, by omega⟩ ⟨by omega, by omega⟩ dX12_draw_64 (by decide) (fun c66 => ?_) (fun c66 => ?_)
              · skip
                replace hb58 := hb58.trans (if_pos c66)
                refine pm_aload_n hC 0 (by decide) dX12_draw_255 rfl ?_
                refine pm_getf (v := y63) hC 90 fl_X12_235 rfl rfl (by decide) rfl e64 dX12_draw_256 ?_
                have hT := hT.trans (pf_val_inr hb58)
                exact pm_iret hC hR pm_nar0 ⟨y63, rfl, ⟨by omega, by omega⟩, hV49, hF50, hp54, hT⟩ dX12_draw_259
              · skip
                replace hb58 := hb58.trans (if_neg (Int.not_le.mpr c66))
                refine pm_aload_n hC 0 (by decide) dX12_draw_67 rfl ?_
                refine pm_aload_n hC 0 (by decide) dX12_draw_68 rfl ?_
                refine pm_getf (v := y1) hC 90 fl_X12_220 rfl rfl (by decide) rfl e51 dX12_draw_69 ?_
                refine pm_i2l hC ⟨by omega, by omega⟩ dX12_draw_72 ?_
                refine pm_callV (ci := 12) (as := [(1, y1)]) (st := []) hC 90 (fB_X12_draws y1 ⟨by omega, by omega⟩) lm_X12_476 li_X12_draws (by decide) (by decide) rfl rfl rfl (by decide) rfl rfl (Nat.le_of_ble_eq_true rfl) ⟨Nat.le_refl _, Or.inl rfl⟩ dX12_draw_73 ⟨rfl, hV49⟩ (fun r67 V68 hp69 => ?_)
                obtain ⟨y70, rfl, b71, hV72, hF73, hE74⟩ := hp69
                replace hb58 := hb58.trans (pf_call_eq hE74)
                change pm_J X 76 [(0, (3, 90)), (1, (0, a1)), (2, (0, a2)), (3, (0, a3)), (4, (0, a4)), (5, (0, x46))] [(0, y70)] 118 V68
                have hF75 := pm_fs.tr hF50 hF73 (by decide) (by decide)
                have e76 : V68 90 16 = y1 := by rw [hF73.2 16 (by decide)]; exact e51
                have e77 : V68 90 25 = y63 := by rw [hF73.2 25 (by decide)]; exact e64
                have hp78 : pm_h1 V68 := (pm_h1.fr hp52 (hF73.2 16 (by decide)) (hF73.1 97 (by decide) (by decide)))
                have hp79 : pm_h2 V68 := (pm_h2.fr hp53 (hF73.2 16 (by decide)) (hF73.2 21 (by decide)) (hF73.1 99 (by decide) (by decide)))
                have hp80 : pm_h3 V68 := (pm_h3.fr hp54 (hF73.2 16 (by decide)) (hF73.2 25 (by decide)) (hF73.1 101 (by decide) (by decide)))
                refine pm_istore (lv' := [(6, (0, y70)), (0, (3, 90)), (1, (0, a1)), (2, (0, a2)), (3, (0, a3)), (4, (0, a4)), (5, (0, x46))]) hC dX12_draw_76 (by decide) rfl ?_
                refine pm_aload_n hC 1 (by decide) dX12_draw_78 rfl ?_
                refine pm_aload_n hC 1 (by decide) dX12_draw_79 rfl ?_
                refine pm_getf (v := y1) hC 90 fl_X12_220 rfl rfl (by decide) rfl e76 dX12_draw_80 ?_
                refine pm_i2l hC ⟨by omega, by omega⟩ dX12_draw_83 ?_
                refine pm_callV (ci := 12) (as := [(1, y1)]) (st := []) hC 90 (fB_X12_draws y1 ⟨by omega, by omega⟩) lm_X12_476 li_X12_draws (by decide) (by decide) rfl rfl rfl (by decide) rfl rfl (Nat.le_of_ble_eq_true rfl) ⟨Nat.le_refl _, Or.inl rfl⟩ dX12_draw_84 ⟨rfl, hV72⟩ (fun r81 V82 hp83 => ?_)
                obtain ⟨y84, rfl, b85, hV86, hF87, hE88⟩ := hp83
                replace hb58 := hb58.trans (pf_call_eq hE88)
                change pm_J X 87 [(6, (0, y70)), (0, (3, 90)), (1, (0, a1)), (2, (0, a2)), (3, (0, a3)), (4, (0, a4)), (5, (0, x46))] [(0, y84)] 118 V82
                have hF89 := pm_fs.tr hF75 hF87 (by decide) (by decide)
                have e90 : V82 90 16 = y1 := by rw [hF87.2 16 (by decide)]; exact e76
                have e91 : V82 90 25 = y63 := by rw [hF87.2 25 (by decide)]; exact e77
                have hp92 : pm_h1 V82 := (pm_h1.fr hp78 (hF87.2 16 (by decide)) (hF87.1 97 (by decide) (by decide)))
                have hp93 : pm_h2 V82 := (pm_h2.fr hp79 (hF87.2 16 (by decide)) (hF87.2 21 (by decide)) (hF87.1 99 (by decide) (by decide)))
                have hp94 : pm_h3 V82 := (pm_h3.fr hp80 (hF87.2 16 (by decide)) (hF87.2 25 (by decide)) (hF87.1 101 (by decide) (by decide)))
                refine pm_istore (lv' := [(7, (0, y84)), (6, (0, y70)), (0, (3, 90)), (1, (0, a1)), (2, (0, a2)), (3, (0, a3)), (4, (0, a4)), (5, (0, x46))]) hC dX12_draw_87 (by decide) rfl ?_
                refine pm_aload_n hC 2 (by decide) dX12_draw_89 rfl ?_
                refine pm_ldc2 (v := 10) hC 6087 dX12_draw_90 (by decide +kernel) ?_
                refine pm_callV (ci := 12) (as := [(1, 10)]) (st := []) hC 90 (fB_X12_draws 10 ⟨by decide, by decide⟩) lm_X12_476 li_X12_draws (by decide) (by decide) rfl rfl rfl (by decide) rfl rfl (Nat.le_of_ble_eq_true rfl) ⟨Nat.le_refl _, Or.inl rfl⟩ dX12_draw_93 ⟨rfl, hV86⟩ (fun r95 V96 hp97 => ?_)
                obtain ⟨y98, rfl, b99, hV100, hF101, hE102⟩ := hp97
                replace hb58 := hb58.trans (pf_call_eq hE102)
                change pm_J X 96 [(7, (0, y84)), (6, (0, y70)), (0, (3, 90)), (1, (0, a1)), (2, (0, a2)), (3, (0, a3)), (4, (0, a4)), (5, (0, x46))] [(0, y98)] 118 V96
                have hF103 := pm_fs.tr hF89 hF101 (by decide) (by decide)
                have e104 : V96 90 16 = y1 := by rw [hF101.2 16 (by decide)]; exact e90
                have e105 : V96 90 25 = y63 := by rw [hF101.2 25 (by decide)]; exact e91
                have hp106 : pm_h1 V96 := (pm_h1.fr hp92 (hF101.2 16 (by decide)) (hF101.1 97 (by decide) (by decide)))
                have hp107 : pm_h2 V96 := (pm_h2.fr hp93 (hF101.2 16 (by decide)) (hF101.2 21 (by decide)) (hF101.1 99 (by decide) (by decide)))
                have hp108 : pm_h3 V96 := (pm_h3.fr hp94 (hF101.2 16 (by decide)) (hF101.2 25 (by decide)) (hF101.1 101 (by decide) (by decide)))
                refine pm_istore (lv' := [(8, (0, y98)), (7, (0, y84)), (6, (0, y70)), (0, (3, 90)), (1, (0, a1)), (2, (0, a2)), (3, (0, a3)), (4, (0, a4)), (5, (0, x46))]) hC dX12_draw_96 (by decide) rfl ?_
                refine pm_aload_n hC 3 (by decide) dX12_draw_98 rfl ?_
                refine pm_ldc2 (v := 10) hC 6087 dX12_draw_99 (by decide +kernel) ?_
                refine pm_callV (ci := 12) (as := [(1, 10)]) (st := []) hC 90 (fB_X12_draws 10 ⟨by decide, by decide⟩) lm_X12_476 li_X12_draws (by decide) (by decide) rfl rfl rfl (by decide) rfl rfl (Nat.le_of_ble_eq_true rfl) ⟨Nat.le_refl _, Or.inl rfl⟩ dX12_draw_102 ⟨rfl, hV100⟩ (fun r109 V110 hp111 => ?_)
                obtain ⟨y112, rfl, b113, hV114, hF115, hE116⟩ := hp111
                replace hb58 := hb58.trans (pf_call_eq hE116)
                change pm_J X 105 [(8, (0, y98)), (7, (0, y84)), (6, (0, y70)), (0, (3, 90)), (1, (0, a1)), (2, (0, a2)), (3, (0, a3)), (4, (0, a4)), (5, (0, x46))] [(0, y112)] 118 V110
                have hF117 := pm_fs.tr hF103 hF115 (by decide) (by decide)
                have e118 : V110 90 16 = y1 := by rw [hF115.2 16 (by decide)]; exact e104
                have e119 : V110 90 25 = y63 := by rw [hF115.2 25 (by decide)]; exact e105
                have hp120 : pm_h1 V110 := (pm_h1.fr hp106 (hF115.2 16 (by decide)) (hF115.1 97 (by decide) (by decide)))
                have hp121 : pm_h2 V110 := (pm_h2.fr hp107 (hF115.2 16 (by decide)) (hF115.2 21 (by decide)) (hF115.1 99 (by decide) (by decide)))
                have hp122 : pm_h3 V110 := (pm_h3.fr hp108 (hF115.2 16 (by decide)) (hF115.2 25 (by decide)) (hF115.1 101 (by decide) (by decide)))
                refine pm_istore (lv' := [(9, (0, y112)), (8, (0, y98)), (7, (0, y84)), (6, (0, y70)), (0, (3, 90)), (1, (0, a1)), (2, (0, a2)), (3, (0, a3)), (4, (0, a4)), (5, (0, x46))]) hC dX12_draw_105 (by decide) rfl ?_
                refine pm_aload_n hC 4 (by decide) dX12_draw_107 rfl ?_
                refine pm_ldc2 (v := 199) hC 8032 dX12_draw_108 (by decide +kernel) ?_
                refine pm_callV (ci := 12) (as := [(1, 199)]) (st := []) hC 90 (fB_X12_draws 199 ⟨by decide, by decide⟩) lm_X12_476 li_X12_draws (by decide) (by decide) rfl rfl rfl (by decide) rfl rfl (Nat.le_of_ble_eq_true rfl) ⟨Nat.le_refl _, Or.inl rfl⟩ dX12_draw_111 ⟨rfl, hV114⟩ (fun r123 V124 hp125 => ?_)
                obtain ⟨y126, rfl, b127, hV128, hF129, hE130⟩ := hp125
                replace hb58 := hb58.trans (pf_call_eq hE130)
                change pm_J X 114 [(9, (0, y112)), (8, (0, y98)), (7, (0, y84)), (6, (0, y70)), (0, (3, 90)), (1, (0, a1)), (2, (0, a2)), (3, (0, a3)), (4, (0, a4)), (5, (0, x46))] [(0, y126)] 118 V124
                have hF131 := pm_fs.tr hF117 hF129 (by decide) (by decide)
                have e132 : V124 90 16 = y1 := by rw [hF129.2 16 (by decide)]; exact e118
                have e133 : V124 90 25 = y63 := by rw [hF129.2 25 (by decide)]; exact e119
                have hp134 : pm_h1 V124 := (pm_h1.fr hp120 (hF129.2 16 (by decide)) (hF129.1 97 (by decide) (by decide)))
                have hp135 : pm_h2 V124 := (pm_h2.fr hp121 (hF129.2 16 (by decide)) (hF129.2 21 (by decide)) (hF129.1 99 (by decide) (by decide)))
                have hp136 : pm_h3 V124 := (pm_h3.fr hp122 (hF129.2 16 (by decide)) (hF129.2 25 (by decide)) (hF129.1 101 (by decide) (by decide)))
                refine pm_bipush (v := 99) hC dX12_draw_114 (by decide) ?_
                refine pm_isub hC dX12_draw_116 ?_
                refine pm_istore (lv' := [(10, (0, (y126 - 99))), (9, (0, y112)), (8, (0, y98)), (7, (0, y84)), (6, (0, y70)), (0, (3, 90)), (1, (0, a1)), (2, (0, a2)), (3, (0, a3)), (4, (0, a4)), (5, (0, x46))]) hC dX12_draw_117 (by decide) rfl ?_
                refine pm_bipush (v := 100) hC dX12_draw_119 (by decide) ?_
                refine pm_iload_n hC 7 dX12_draw_121 rfl ?_
                refine pm_imul hC dX12_draw_122 ?_
                refine pm_bipush (v := 10) hC dX12_draw_123 (by decide) ?_
                refine pm_iload hC 4 dX12_draw_125 rfl ?_
                refine pm_imul hC dX12_draw_127 ?_
                refine pm_iadd hC dX12_draw_128 ?_
                refine pm_iload hC 3 dX12_draw_129 rfl ?_
                refine pm_iadd hC dX12_draw_131 ?_
                have b138 := pm_wvf (a := a2) (v := y70) (f := y84) (by omega) (by omega) (by omega)
                obtain ⟨w137, hew137⟩ : ∃ z, (((100 * a2) + (10 * y70)) + y84) = z := ⟨_, rfl⟩
                rw [hew137] at b138 ⊢
                replace hb58 := hb58.trans (pf_let_eq hew137)
                clear hew137
                refine pm_istore (lv' := [(11, (0, w137)), (10, (0, (y126 - 99))), (9, (0, y112)), (8, (0, y98)), (7, (0, y84)), (6, (0, y70)), (0, (3, 90)), (1, (0, a1)), (2, (0, a2)), (3, (0, a3)), (4, (0, a4)), (5, (0, x46))]) hC dX12_draw_132 (by decide) rfl ?_
                refine pm_aload_n hC 6 (by decide) dX12_draw_134 rfl ?_
                refine pm_iload hC 0 dX12_draw_135 rfl ?_
                refine pm_bipush (v := 10) hC dX12_draw_137 (by decide) ?_
                refine pm_iload hC 3 dX12_draw_139 rfl ?_
                refine pm_imul hC dX12_draw_141 ?_
                refine pm_iload hC 2 dX12_draw_142 rfl ?_
                refine pm_iadd hC dX12_draw_144 ?_
                refine pm_iload hC 1 dX12_draw_145 rfl ?_
                refine pm_callV (ci := 12) (as := [(0, w137), (0, ((10 * y98) + y112)), (0, (y126 - 99))]) (st := []) hC 90 (fB_X12_works w137 ((10 * y98) + y112) (y126 - 99) ⟨by omega, by omega⟩ ⟨by omega, by omega⟩ ⟨by omega, by omega⟩ (by omega)) lm_X12_376 li_X12_works (by decide) (by decide) rfl rfl rfl (by decide) rfl rfl (Nat.le_of_ble_eq_true rfl) ⟨Nat.le_refl _, Or.inl rfl⟩ dX12_draw_147 ⟨rfl, hV128, (show (w137) % 10 < V124 90 16 by omega), (show (w137) / 10 % 10 < V124 90 16 by omega), hp134⟩ (fun r139 V140 hp141 => ?_)
                obtain ⟨rfl, hV142, hF143, hq144, hq145, hg146, hg147, hE148⟩ := hp141
                replace hb58 := hb58.trans (pf_call_eq hE148)
                change pm_J X 150 [(11, (0, w137)), (10, (0, (y126 - 99))), (9, (0, y112)), (8, (0, y98)), (7, (0, y84)), (6, (0, y70)), (0, (3, 90)), (1, (0, a1)), (2, (0, a2)), (3, (0, a3)), (4, (0, a4)), (5, (0, x46))] [] 118 V140
                have hF149 := pm_fs.tr hF131 hF143 (by decide) (by decide)
                have e150 : V140 90 16 = y1 := by rw [hF143.2 16 (by decide)]; exact e132
                have e151 : V140 90 25 = y63 := by rw [hF143.2 25 (by decide)]; exact e133
                have hp152 : pm_h1 V140 := (pm_h1.fr hp134 (hF143.2 16 (by decide)) (hF143.1 97 (by decide) (by decide)))
                have hp153 : pm_h2 V140 := (pm_h2.fr hp135 (hF143.2 16 (by decide)) (hF143.2 21 (by decide)) (hF143.1 99 (by decide) (by decide)))
                have hp154 : pm_h3 V140 := (pm_h3.fr hp136 (hF143.2 16 (by decide)) (hF143.2 25 (by decide)) (hF143.1 101 (by decide) (by decide)))
                obtain ⟨z155, ez156⟩ : ∃ z, V140 90 42 = z := ⟨_, rfl⟩
                rw [ez156] at hq144
                replace hb58 := hb58.trans (pf_let_eq ez156)
                obtain ⟨z157, ez158⟩ : ∃ z, V140 90 43 = z := ⟨_, rfl⟩
                rw [ez158] at hq145
                replace hb58 := hb58.trans (pf_let_eq ez158)
                refine pm_aload_n hC 6 (by decide) dX12_draw_150 rfl ?_
                refine pm_iload_n hC 7 dX12_draw_151 rfl ?_
                have q162 : 1 ≤ V140 90 42 ∧ V140 90 42 ≤ 171 := by (have e : V140 90 42 = z155 := ez156); rw [e]; exact ⟨by omega, by omega⟩
                have q163 : 1 ≤ V140 90 43 ∧ V140 90 43 ≤ 171 := by (have e : V140 90 43 = z157 := ez158); rw [e]; exact ⟨by omega, by omega⟩
                refine pm_callV (ci := 12) (as := [(0, a1)]) (st := []) hC 90 (fB_X12_weighs a1 ⟨by omega, by omega⟩) lm_X12_380 li_X12_weighs (by decide) (by decide) rfl rfl rfl (by decide) rfl rfl (Nat.le_of_ble_eq_true rfl) ⟨Nat.le_refl _, Or.inl rfl⟩ dX12_draw_152 ⟨rfl, hV142, q162, q163, hg146, hp152, hp153, hg147⟩ (fun r159 V160 hp161 => ?_)
                obtain ⟨rfl, hV164, hF165, hg166, hE167⟩ := hp161
                replace hb58 := hb58.trans (pf_call_eq hE167)
                change pm_J X 155 [(11, (0, w137)), (10, (0, (y126 - 99))), (9, (0, y112)), (8, (0, y98)), (7, (0, y84)), (6, (0, y70)), (0, (3, 90)), (1, (0, a1)), (2, (0, a2)), (3, (0, a3)), (4, (0, a4)), (5, (0, x46))] [] 118 V160
                have hF168 := pm_fs.tr hF149 hF165 (by decide) (by decide)
                have e169 : V160 90 16 = y1 := by rw [hF165.2 16 (by decide)]; exact e150
                have e170 : V160 90 25 = y63 := by rw [hF165.2 25 (by decide)]; exact e151
                have e171 : V160 90 42 = z155 := by rw [hF165.2 42 (by decide)]; exact ez156
                have e172 : V160 90 43 = z157 := by rw [hF165.2 43 (by decide)]; exact ez158
                have hp173 : pm_h1 V160 := (pm_h1.fr hp152 (hF165.2 16 (by decide)) (hF165.1 97 (by decide) (by decide)))
                have hp174 : pm_h2 V160 := (pm_h2.fr hp153 (hF165.2 16 (by decide)) (hF165.2 21 (by decide)) (hF165.1 99 (by decide) (by decide)))
                have hp175 : pm_h3 V160 := (pm_h3.fr hp154 (hF165.2 16 (by decide)) (hF165.2 25 (by decide)) (hF165.1 101 (by decide) (by decide)))
                have hp176 : pm_w1 V160 := (pm_w1.fr hg146 (hF165.2 16 (by decide)) (hF165.2 48 (by decide)) (hF165.2 49 (by decide)) (hF165.1 110 (by decide) (by decide)) (hF165.1 111 (by decide) (by decide)))
                have hp177 : pm_w3 V160 := (pm_w3.fr hg147 (hF165.2 16 (by decide)) (hF165.2 46 (by decide)) (hF165.1 110 (by decide) (by decide)) (hF165.1 111 (by decide) (by decide)))
                refine pm_aload_n hC 6 (by decide) dX12_draw_155 rfl ?_
                refine pm_aload_n hC 6 (by decide) dX12_draw_156 rfl ?_
                obtain ⟨y178, e179⟩ : ∃ y, V160 90 51 = y := ⟨_, rfl⟩
                have b180 := hV164.get 90 51 (lo := 0) (hi := 720000000) (by decide) (by decide) rfl
                rw [e179] at b180
                replace hb58 := hb58.trans (pf_let_eq e179)
                refine pm_getf (v := y178) hC 90 fl_X12_362 rfl rfl (by decide) rfl e179 dX12_draw_157 ?_
                have hwp181 := hg166.1
                rw [(show V160 90 51 = y178 from e179)] at hwp181
                refine pm_callV (ci := 12) (as := [(1, y178)]) (st := []) hC 90 (fB_X12_draws y178 ⟨by omega, by omega⟩) lm_X12_476 li_X12_draws (by decide) (by decide) rfl rfl rfl (by decide) rfl rfl (Nat.le_of_ble_eq_true rfl) ⟨Nat.le_refl _, Or.inl rfl⟩ dX12_draw_160 ⟨rfl, hV164⟩ (fun r182 V183 hp184 => ?_)
                obtain ⟨y185, rfl, b186, hV187, hF188, hE189⟩ := hp184
                replace hb58 := hb58.trans (pf_call_eq hE189)
                change pm_J X 163 [(11, (0, w137)), (10, (0, (y126 - 99))), (9, (0, y112)), (8, (0, y98)), (7, (0, y84)), (6, (0, y70)), (0, (3, 90)), (1, (0, a1)), (2, (0, a2)), (3, (0, a3)), (4, (0, a4)), (5, (0, x46))] [(0, y185)] 118 V183
                have hF190 := pm_fs.tr hF168 hF188 (by decide) (by decide)
                have e191 : V183 90 16 = y1 := by rw [hF188.2 16 (by decide)]; exact e169
                have e192 : V183 90 25 = y63 := by rw [hF188.2 25 (by decide)]; exact e170
                have e193 : V183 90 42 = z155 := by rw [hF188.2 42 (by decide)]; exact e171
                have e194 : V183 90 43 = z157 := by rw [hF188.2 43 (by decide)]; exact e172
                have e195 : V183 90 51 = y178 := by rw [hF188.2 51 (by decide)]; exact e179
                have hp196 : pm_h1 V183 := (pm_h1.fr hp173 (hF188.2 16 (by decide)) (hF188.1 97 (by decide) (by decide)))
                have hp197 : pm_h2 V183 := (pm_h2.fr hp174 (hF188.2 16 (by decide)) (hF188.2 21 (by decide)) (hF188.1 99 (by decide) (by decide)))
                have hp198 : pm_h3 V183 := (pm_h3.fr hp175 (hF188.2 16 (by decide)) (hF188.2 25 (by decide)) (hF188.1 101 (by decide) (by decide)))
                have hp199 : pm_w1 V183 := (pm_w1.fr hp176 (hF188.2 16 (by decide)) (hF188.2 48 (by decide)) (hF188.2 49 (by decide)) (hF188.1 110 (by decide) (by decide)) (hF188.1 111 (by decide) (by decide)))
                have hp200 : pm_w3 V183 := (pm_w3.fr hp177 (hF188.2 16 (by decide)) (hF188.2 46 (by decide)) (hF188.1 110 (by decide) (by decide)) (hF188.1 111 (by decide) (by decide)))
                have hp201 : pm_w2 V183 := (pm_w2.fr hg166 (hF188.2 16 (by decide)) (hF188.2 51 (by decide)) (hF188.1 112 (by decide) (by decide)))
                refine pm_i2l hC ⟨by omega, by omega⟩ dX12_draw_163 ?_
                refine pm_lstore (lv' := [(12, (1, y185)), (11, (0, w137)), (10, (0, (y126 - 99))), (9, (0, y112)), (8, (0, y98)), (7, (0, y84)), (6, (0, y70)), (0, (3, 90)), (1, (0, a1)), (2, (0, a2)), (3, (0, a3)), (4, (0, a4)), (5, (0, x46))]) hC dX12_draw_164 (by decide) rfl ?_
                have hs0 : pm_sum (V183 112) ((0 : Int)).toNat = 0 := rfl
                have hw20 := hp201
                obtain ⟨hw21, hw22⟩ := hw20
                rw [e195] at hw21
                rw [e195, e191] at hw22
                refine pm_iconst (v := 0) hC dX12_draw_166 ?_
                refine pm_istore (lv' := [(14, (0, 0)), (12, (1, y185)), (11, (0, w137)), (10, (0, (y126 - 99))), (9, (0, y112)), (8, (0, y98)), (7, (0, y84)), (6, (0, y70)), (0, (3, 90)), (1, (0, a1)), (2, (0, a2)), (3, (0, a3)), (4, (0, a4)), (5, (0, x46))]) hC dX12_draw_167 (by decide) rfl ?_
                obtain ⟨B207, hB208, hb58⟩ := pf_loop hb58
                have L210 : ∀ (N212 : Nat) (x202 : Int) (x204 : Int), (0 ≤ x202 ∧ x202 ≤ 720000000) → (0 ≤ x204 ∧ x204 ≤ 9) → (x202 + pm_sum (V183 112) ((x204) : Int).toNat < y178) → B56 (x46, V48) = pf_val (.inr ((0 : Int), V0)) B207 (x202, x204) → (Int.toNat (9 - x204)) = N212 → pm_J X 169 [(0, (3, 90)), (1, (0, a1)), (2, (0, a2)), (3, (0, a3)), (4, (0, a4)), (5, (0, x46)), (6, (0, y70)), (7, (0, y84)), (8, (0, y98)), (9, (0, y112)), (10, (0, (y126 - 99))), (11, (0, w137)), (12, (1, x202)), (14, (0, x204))] [] 118 V183 := by
                  intro N212
                  induction N212 using Nat.strongRecOn with
                  | _ N212 ih213 =>
                  intro x202 x204 b203 b205 b206 hb58 hm211
                  have hb209 := congrFun hB208 (x202, x204)
                  have hlt : x204 < y1 := by
                    rcases Int.lt_or_le x204 y1 with q | q
                    · exact q
                    · have q1 := pm_sum_mono (f := V183 112) (n := (y1 : Int).toNat) (m := (x204 : Int).toNat) (by omega) (fun j hj => (hV187.get 112 j (lo := 0) (hi := 80000000) (t := 0) (by decide) (show j < 9 by omega) rfl).1)
                      omega
                  refine pm_lload hC 12 dX12_draw_169 rfl ?_
                  refine pm_aload_n hC 0 (by decide) dX12_draw_171 rfl ?_
                  have e214 : V183 90 50 = 112 := hV187.one 90 50 (by decide) (by decide) rfl
                  refine pm_getf (v := 112) hC 90 fl_X12_76 rfl rfl (by decide) rfl e214 dX12_draw_172 ?_
                  refine pm_iload hC 13 dX12_draw_175 rfl ?_
                  obtain ⟨y215, e216⟩ : ∃ y, V183 112 (x204 : Int).toNat = y := ⟨_, rfl⟩
                  replace hb209 := hb209.trans (pf_let_eq e216)
                  have b217 := hV187.get 112 (x204 : Int).toNat (lo := 0) (hi := 80000000) (t := 0) (by decide) (show _ < 9 by omega) rfl
                  rw [e216] at b217
                  refine pm_laload (len := 9) (v := y215) hC 112 rfl rfl (by decide) ⟨by omega, by omega⟩ (by decide) e216 dX12_draw_177 ?_
                  refine pm_lcmp hC ⟨by omega, by omega⟩ ⟨by omega, by omega⟩ dX12_draw_178 (fun y218 b219 => ?_)
                  replace hb209 := hb209.trans (pf_let_eq (pm_cmp_u b219))
                  refine pm_if_lt (tgt := 200) hC ⟨by omega, by omega⟩ dX12_draw_179 (by decide) (fun c220 => ?_) (fun c220 => ?_)
                  · skip
                    replace hb209 := hb209.trans (if_pos c220)
                    refine pm_aload_n hC 0 (by decide) dX12_draw_200 rfl ?_
                    refine pm_ldc2 (v := 1000) hC 7092 dX12_draw_201 (by decide +kernel) ?_
                    refine pm_callV (ci := 12) (as := [(1, 1000)]) (st := []) hC 90 (fB_X12_draws 1000 ⟨by decide, by decide⟩) lm_X12_476 li_X12_draws (by decide) (by decide) rfl rfl rfl (by decide) rfl rfl (Nat.le_of_ble_eq_true rfl) ⟨Nat.le_refl _, Or.inl rfl⟩ dX12_draw_204 ⟨rfl, hV187⟩ (fun r221 V222 hp223 => ?_)
                    obtain ⟨y224, rfl, b225, hV226, hF227, hE228⟩ := hp223
                    replace hb209 := hb209.trans (pf_call_eq hE228)
                    change pm_J X 207 [(0, (3, 90)), (1, (0, a1)), (2, (0, a2)), (3, (0, a3)), (4, (0, a4)), (5, (0, x46)), (6, (0, y70)), (7, (0, y84)), (8, (0, y98)), (9, (0, y112)), (10, (0, (y126 - 99))), (11, (0, w137)), (12, (1, x202)), (14, (0, x204))] [(0, y224)] 118 V222
                    have hF229 := pm_fs.tr hF190 hF227 (by decide) (by decide)
                    have e230 : V222 90 16 = y1 := by rw [hF227.2 16 (by decide)]; exact e191
                    have e231 : V222 90 25 = y63 := by rw [hF227.2 25 (by decide)]; exact e192
                    have e232 : V222 90 42 = z155 := by rw [hF227.2 42 (by decide)]; exact e193
                    have e233 : V222 90 43 = z157 := by rw [hF227.2 43 (by decide)]; exact e194
                    have e234 : V222 90 51 = y178 := by rw [hF227.2 51 (by decide)]; exact e195
                    have e235 : V222 90 50 = 112 := by rw [hF227.2 50 (by decide)]; exact e214
                    have hp236 : pm_h1 V222 := (pm_h1.fr hp196 (hF227.2 16 (by decide)) (hF227.1 97 (by decide) (by decide)))
                    have hp237 : pm_h2 V222 := (pm_h2.fr hp197 (hF227.2 16 (by decide)) (hF227.2 21 (by decide)) (hF227.1 99 (by decide) (by decide)))
                    have hp238 : pm_h3 V222 := (pm_h3.fr hp198 (hF227.2 16 (by decide)) (hF227.2 25 (by decide)) (hF227.1 101 (by decide) (by decide)))
                    have hp239 : pm_w1 V222 := (pm_w1.fr hp199 (hF227.2 16 (by decide)) (hF227.2 48 (by decide)) (hF227.2 49 (by decide)) (hF227.1 110 (by decide) (by decide)) (hF227.1 111 (by decide) (by decide)))
                    have hp240 : pm_w3 V222 := (pm_w3.fr hp200 (hF227.2 16 (by decide)) (hF227.2 46 (by decide)) (hF227.1 110 (by decide) (by decide)) (hF227.1 111 (by decide) (by decide)))
                    have hp241 : pm_w2 V222 := (pm_w2.fr hp201 (hF227.2 16 (by decide)) (hF227.2 51 (by decide)) (hF227.1 112 (by decide) (by decide)))
                    refine pm_aload_n hC 0 (by decide) dX12_draw_207 rfl ?_
                    refine pm_callV (ci := 12) (as := []) (st := [(0, y224)]) hC 90 fB_X12_noticedNow lm_X12_396 li_X12_noticedNow (by decide) (by decide) rfl rfl rfl (by decide) rfl rfl (Nat.le_of_ble_eq_true rfl) ⟨Nat.le_refl _, Or.inl rfl⟩ dX12_draw_208 ⟨rfl, hV226⟩ (fun r242 V243 hp244 => ?_)
                    obtain ⟨y245, rfl, b246, rfl, hE247⟩ := hp244
                    replace hb209 := hb209.trans (pf_call_eq hE247)
                    change pm_J X 211 [(0, (3, 90)), (1, (0, a1)), (2, (0, a2)), (3, (0, a3)), (4, (0, a4)), (5, (0, x46)), (6, (0, y70)), (7, (0, y84)), (8, (0, y98)), (9, (0, y112)), (10, (0, (y126 - 99))), (11, (0, w137)), (12, (1, x202)), (14, (0, x204))] [(0, y245), (0, y224)] 118 V222
                    refine pm_icmp_ge (tgt := 218) hC ⟨by omega, by omega⟩ ⟨by omega, by omega⟩ dX12_draw_211 (by decide) (fun c248 => ?_) (fun c248 => ?_)
                    · skip
                      replace hb209 := hb209.trans (if_pos c248)
                      refine pm_iconst (v := 0) hC dX12_draw_218 ?_
                      refine pm_istore (lv' := [(15, (0, 0)), (0, (3, 90)), (1, (0, a1)), (2, (0, a2)), (3, (0, a3)), (4, (0, a4)), (5, (0, x46)), (6, (0, y70)), (7, (0, y84)), (8, (0, y98)), (9, (0, y112)), (10, (0, (y126 - 99))), (11, (0, w137)), (12, (1, x202)), (14, (0, x204))]) hC dX12_draw_219 (by decide) rfl ?_
                      refine pm_aload_n hC 1 (by decide) dX12_draw_221 rfl ?_
                      refine pm_iload hC 12 dX12_draw_222 rfl ?_
                      refine pm_bipush (v := 10) hC dX12_draw_224 (by decide) ?_
                      refine pm_iload hC 9 dX12_draw_226 rfl ?_
                      refine pm_imul hC dX12_draw_228 ?_
                      refine pm_iload hC 10 dX12_draw_229 rfl ?_
                      refine pm_iadd hC dX12_draw_231 ?_
                      refine pm_iload hC 11 dX12_draw_232 rfl ?_
                      refine pm_iload hC 14 dX12_draw_234 rfl ?_
                      refine pm_iload hC 0 dX12_draw_236 rfl ?_
                      refine pm_if_eq (tgt := 245) hC ⟨by decide, by decide⟩ dX12_draw_238 (by decide) (fun c249 => ?_) (fun c249 => ?_)
                      · skip
                        refine pm_iconst (v := 0) hC dX12_draw_245 ?_
                        clear hs0 hw22
                        refine pm_callV (ci := 12) (as := [(0, w137), (0, ((10 * y98) + y112)), (0, (y126 - 99)), (0, x204), (0, 0)]) (st := []) hC 90 (fB_X12_keepsAnswer w137 ((10 * y98) + y112) (y126 - 99) x204 0 ⟨by omega, by omega⟩ ⟨by omega, by omega⟩ ⟨by omega, by omega⟩ ⟨by omega, by omega⟩ ⟨by decide, by decide⟩ (by omega)) lm_X12_399 li_X12_keepsAnswer (by decide) (by decide) rfl rfl rfl (by decide) rfl rfl (Nat.le_of_ble_eq_true rfl) ⟨Nat.le_refl _, Or.inl rfl⟩ dX12_draw_246 ⟨rfl, hV226, (show (w137) % 10 < V222 90 16 by omega), (show (w137) / 10 % 10 < V222 90 16 by omega), (show (x204) < V222 90 16 by omega), (show V222 90 25 ≤ 59 by omega), hp238⟩ (fun r250 V251 hp252 => ?_)
                        obtain ⟨rfl, hV253, hF254, hg255, hxp256, hE257⟩ := hp252
                        replace hb209 := hb209.trans (pf_call_eq hE257)
                        change pm_J X 249 [(15, (0, 0)), (0, (3, 90)), (1, (0, a1)), (2, (0, a2)), (3, (0, a3)), (4, (0, a4)), (5, (0, x46)), (6, (0, y70)), (7, (0, y84)), (8, (0, y98)), (9, (0, y112)), (10, (0, (y126 - 99))), (11, (0, w137)), (12, (1, x202)), (14, (0, x204))] [] 118 V251
                        have hF258 := pm_fs.tr hF229 hF254 (by decide) (by decide)
                        have e259 : V251 90 16 = y1 := by rw [hF254.2 16 (by decide)]; exact e230
                        have e260 : V251 90 42 = z155 := by rw [hF254.2 42 (by decide)]; exact e232
                        have e261 : V251 90 43 = z157 := by rw [hF254.2 43 (by decide)]; exact e233
                        have e262 : V251 90 51 = y178 := by rw [hF254.2 51 (by decide)]; exact e234
                        have e263 : V251 90 50 = 112 := by rw [hF254.2 50 (by decide)]; exact e235
                        have hp264 : pm_h1 V251 := (pm_h1.fr hp236 (hF254.2 16 (by decide)) (hF254.1 97 (by decide) (by decide)))
                        have hp265 : pm_h2 V251 := (pm_h2.fr hp237 (hF254.2 16 (by decide)) (hF254.2 21 (by decide)) (hF254.1 99 (by decide) (by decide)))
                        have hp266 : pm_w1 V251 := (pm_w1.fr hp239 (hF254.2 16 (by decide)) (hF254.2 48 (by decide)) (hF254.2 49 (by decide)) (hF254.1 110 (by decide) (by decide)) (hF254.1 111 (by decide) (by decide)))
                        have hp267 : pm_w3 V251 := (pm_w3.fr hp240 (hF254.2 16 (by decide)) (hF254.2 46 (by decide)) (hF254.1 110 (by decide) (by decide)) (hF254.1 111 (by decide) (by decide)))
                        have hp268 : pm_w2 V251 := (pm_w2.fr hp241 (hF254.2 16 (by decide)) (hF254.2 51 (by decide)) (hF254.1 112 (by decide) (by decide)))
                        obtain ⟨x269, ei270⟩ : ∃ y : Int, x46 + 1 = y := ⟨_, rfl⟩
                        replace hb209 := hb209.trans (pf_let_eq ei270)
                        refine pm_iinc (y := x269) (lv' := [(5, (0, x269)), (15, (0, 0)), (0, (3, 90)), (1, (0, a1)), (2, (0, a2)), (3, (0, a3)), (4, (0, a4)), (6, (0, y70)), (7, (0, y84)), (8, (0, y98)), (9, (0, y112)), (10, (0, (y126 - 99))), (11, (0, w137)), (12, (1, x202)), (14, (0, x204))]) hC 6 dX12_draw_249 (by decide) rfl ei270 rfl ?_
                        refine pm_goto (tgt := 60) hC dX12_draw_252 (by decide) ?_
                        obtain ⟨y271, e272⟩ : ∃ y, V251 90 25 = y := ⟨_, rfl⟩
                        have b273 := hV253.get 90 25 (lo := 0) (hi := 60) (by decide) (by decide) rfl
                        rw [e272] at b273
                        replace hb209 := hb209.trans (pf_let_eq e272)
                        have hb58 := hb58.trans (pf_val_inr hb209)
                        refine pm_lvsub [2, 3, 4, 5, 6, 0] (lv' := [(0, (3, 90)), (1, (0, a1)), (2, (0, a2)), (3, (0, a3)), (4, (0, a4)), (5, (0, x269))]) rfl ?_
                        exact ih62 _ (by omega) x269 V251 ⟨by omega, by omega⟩ hV253 hF258 e259 hp264 hp265 hg255 (by (have e : V251 90 25 = y271 := e272); rw [e]; omega) (hT.trans (pf_val_inl hb58)) rfl
                      · skip
                        exfalso; omega
                    · skip
                      replace hb209 := hb209.trans (if_neg (Int.not_le.mpr c248))
                      refine pm_iconst (v := 1) hC dX12_draw_214 ?_
                      refine pm_goto (tgt := 219) hC dX12_draw_215 (by decide) ?_
                      refine pm_istore (lv' := [(15, (0, 1)), (0, (3, 90)), (1, (0, a1)), (2, (0, a2)), (3, (0, a3)), (4, (0, a4)), (5, (0, x46)), (6, (0, y70)), (7, (0, y84)), (8, (0, y98)), (9, (0, y112)), (10, (0, (y126 - 99))), (11, (0, w137)), (12, (1, x202)), (14, (0, x204))]) hC dX12_draw_219 (by decide) rfl ?_
                      refine pm_aload_n hC 1 (by decide) dX12_draw_221 rfl ?_
                      refine pm_iload hC 12 dX12_draw_222 rfl ?_
                      refine pm_bipush (v := 10) hC dX12_draw_224 (by decide) ?_
                      refine pm_iload hC 9 dX12_draw_226 rfl ?_
                      refine pm_imul hC dX12_draw_228 ?_
                      refine pm_iload hC 10 dX12_draw_229 rfl ?_
                      refine pm_iadd hC dX12_draw_231 ?_
                      refine pm_iload hC 11 dX12_draw_232 rfl ?_
                      refine pm_iload hC 14 dX12_draw_234 rfl ?_
                      refine pm_iload hC 0 dX12_draw_236 rfl ?_
                      refine pm_if_eq (tgt := 245) hC ⟨by decide, by decide⟩ dX12_draw_238 (by decide) (fun c274 => ?_) (fun c274 => ?_)
                      · skip
                        exfalso; omega
                      · skip
                        refine pm_iconst (v := 1) hC dX12_draw_241 ?_
                        refine pm_goto (tgt := 246) hC dX12_draw_242 (by decide) ?_
                        clear hs0 hw22
                        refine pm_callV (ci := 12) (as := [(0, w137), (0, ((10 * y98) + y112)), (0, (y126 - 99)), (0, x204), (0, 1)]) (st := []) hC 90 (fB_X12_keepsAnswer w137 ((10 * y98) + y112) (y126 - 99) x204 1 ⟨by omega, by omega⟩ ⟨by omega, by omega⟩ ⟨by omega, by omega⟩ ⟨by omega, by omega⟩ ⟨by decide, by decide⟩ (by omega)) lm_X12_399 li_X12_keepsAnswer (by decide) (by decide) rfl rfl rfl (by decide) rfl rfl (Nat.le_of_ble_eq_true rfl) ⟨Nat.le_refl _, Or.inl rfl⟩ dX12_draw_246 ⟨rfl, hV226, (show (w137) % 10 < V222 90 16 by omega), (show (w137) / 10 % 10 < V222 90 16 by omega), (show (x204) < V222 90 16 by omega), (show V222 90 25 ≤ 59 by omega), hp238⟩ (fun r275 V276 hp277 => ?_)
                        obtain ⟨rfl, hV278, hF279, hg280, hxp281, hE282⟩ := hp277
                        replace hb209 := hb209.trans (pf_call_eq hE282)
                        change pm_J X 249 [(15, (0, 1)), (0, (3, 90)), (1, (0, a1)), (2, (0, a2)), (3, (0, a3)), (4, (0, a4)), (5, (0, x46)), (6, (0, y70)), (7, (0, y84)), (8, (0, y98)), (9, (0, y112)), (10, (0, (y126 - 99))), (11, (0, w137)), (12, (1, x202)), (14, (0, x204))] [] 118 V276
                        have hF283 := pm_fs.tr hF229 hF279 (by decide) (by decide)
                        have e284 : V276 90 16 = y1 := by rw [hF279.2 16 (by decide)]; exact e230
                        have e285 : V276 90 42 = z155 := by rw [hF279.2 42 (by decide)]; exact e232
                        have e286 : V276 90 43 = z157 := by rw [hF279.2 43 (by decide)]; exact e233
                        have e287 : V276 90 51 = y178 := by rw [hF279.2 51 (by decide)]; exact e234
                        have e288 : V276 90 50 = 112 := by rw [hF279.2 50 (by decide)]; exact e235
                        have hp289 : pm_h1 V276 := (pm_h1.fr hp236 (hF279.2 16 (by decide)) (hF279.1 97 (by decide) (by decide)))
                        have hp290 : pm_h2 V276 := (pm_h2.fr hp237 (hF279.2 16 (by decide)) (hF279.2 21 (by decide)) (hF279.1 99 (by decide) (by decide)))
                        have hp291 : pm_w1 V276 := (pm_w1.fr hp239 (hF279.2 16 (by decide)) (hF279.2 48 (by decide)) (hF279.2 49 (by decide)) (hF279.1 110 (by decide) (by decide)) (hF279.1 111 (by decide) (by decide)))
                        have hp292 : pm_w3 V276 := (pm_w3.fr hp240 (hF279.2 16 (by decide)) (hF279.2 46 (by decide)) (hF279.1 110 (by decide) (by decide)) (hF279.1 111 (by decide) (by decide)))
                        have hp293 : pm_w2 V276 := (pm_w2.fr hp241 (hF279.2 16 (by decide)) (hF279.2 51 (by decide)) (hF279.1 112 (by decide) (by decide)))
                        obtain ⟨x294, ei295⟩ : ∃ y : Int, x46 + 1 = y := ⟨_, rfl⟩
                        replace hb209 := hb209.trans (pf_let_eq ei295)
                        refine pm_iinc (y := x294) (lv' := [(5, (0, x294)), (15, (0, 1)), (0, (3, 90)), (1, (0, a1)), (2, (0, a2)), (3, (0, a3)), (4, (0, a4)), (6, (0, y70)), (7, (0, y84)), (8, (0, y98)), (9, (0, y112)), (10, (0, (y126 - 99))), (11, (0, w137)), (12, (1, x202)), (14, (0, x204))]) hC 6 dX12_draw_249 (by decide) rfl ei295 rfl ?_
                        refine pm_goto (tgt := 60) hC dX12_draw_252 (by decide) ?_
                        obtain ⟨y296, e297⟩ : ∃ y, V276 90 25 = y := ⟨_, rfl⟩
                        have b298 := hV278.get 90 25 (lo := 0) (hi := 60) (by decide) (by decide) rfl
                        rw [e297] at b298
                        replace hb209 := hb209.trans (pf_let_eq e297)
                        have hb58 := hb58.trans (pf_val_inr hb209)
                        refine pm_lvsub [2, 3, 4, 5, 6, 0] (lv' := [(0, (3, 90)), (1, (0, a1)), (2, (0, a2)), (3, (0, a3)), (4, (0, a4)), (5, (0, x294))]) rfl ?_
                        exact ih62 _ (by omega) x294 V276 ⟨by omega, by omega⟩ hV278 hF283 e284 hp289 hp290 hg280 (by (have e : V276 90 25 = y296 := e297); rw [e]; omega) (hT.trans (pf_val_inl hb58)) rfl
                  · skip
                    replace hb209 := hb209.trans (if_neg (Int.not_lt.mpr c220))
                    refine pm_lload hC 12 dX12_draw_182 rfl ?_
                    refine pm_aload_n hC 0 (by decide) dX12_draw_184 rfl ?_
                    refine pm_getf (v := 112) hC 90 fl_X12_76 rfl rfl (by decide) rfl e214 dX12_draw_185 ?_
                    refine pm_iload hC 13 dX12_draw_188 rfl ?_
                    refine pm_laload (len := 9) (v := y215) hC 112 rfl rfl (by decide) ⟨by omega, by omega⟩ (by decide) e216 dX12_draw_190 ?_
                    refine pm_lsub hC dX12_draw_191 ?_
                    refine pm_lstore (lv' := [(12, (1, (x202 - y215))), (0, (3, 90)), (1, (0, a1)), (2, (0, a2)), (3, (0, a3)), (4, (0, a4)), (5, (0, x46)), (6, (0, y70)), (7, (0, y84)), (8, (0, y98)), (9, (0, y112)), (10, (0, (y126 - 99))), (11, (0, w137)), (14, (0, x204))]) hC dX12_draw_192 (by decide) rfl ?_
                    obtain ⟨x299, ei300⟩ : ∃ y : Int, x204 + 1 = y := ⟨_, rfl⟩
                    replace hb209 := hb209.trans (pf_let_eq ei300)
                    refine pm_iinc (y := x299) (lv' := [(14, (0, x299)), (12, (1, (x202 - y215))), (0, (3, 90)), (1, (0, a1)), (2, (0, a2)), (3, (0, a3)), (4, (0, a4)), (5, (0, x46)), (6, (0, y70)), (7, (0, y84)), (8, (0, y98)), (9, (0, y112)), (10, (0, (y126 - 99))), (11, (0, w137))]) hC 13 dX12_draw_194 (by decide) rfl ei300 rfl ?_
                    have hs1 : pm_sum (V183 112) (x299 : Int).toNat = pm_sum (V183 112) (x204 : Int).toNat + y215 := by
                      rw [show (x299 : Int).toNat = (x204 : Int).toNat + 1 by omega]
                      show pm_sum (V183 112) (x204 : Int).toNat + V183 112 (x204 : Int).toNat = _
                      rw [e216]
                    refine pm_goto (tgt := 169) hC dX12_draw_197 (by decide) ?_
                    refine pm_lvsub [2, 3, 4, 5, 6, 7, 8, 9, 10, 11, 12, 13, 1, 0] (lv' := [(0, (3, 90)), (1, (0, a1)), (2, (0, a2)), (3, (0, a3)), (4, (0, a4)), (5, (0, x46)), (6, (0, y70)), (7, (0, y84)), (8, (0, y98)), (9, (0, y112)), (10, (0, (y126 - 99))), (11, (0, w137)), (12, (1, (x202 - y215))), (14, (0, x299))]) rfl ?_
                    exact ih213 _ (by omega) (x202 - y215) x299 ⟨by omega, by omega⟩ ⟨by omega, by omega⟩ (by omega) (hb58.trans (pf_val_inl hb209)) rfl
                refine pm_lvsub [8, 9, 10, 11, 12, 13, 7, 6, 5, 4, 3, 2, 1, 0] (lv' := [(0, (3, 90)), (1, (0, a1)), (2, (0, a2)), (3, (0, a3)), (4, (0, a4)), (5, (0, x46)), (6, (0, y70)), (7, (0, y84)), (8, (0, y98)), (9, (0, y112)), (10, (0, (y126 - 99))), (11, (0, w137)), (12, (1, y185)), (14, (0, 0))]) rfl ?_
                exact L210 _ y185 0 ⟨by omega, by omega⟩ ⟨by decide, by decide⟩ (by omega) hb58 rfl
            refine pm_lvsub [1, 2, 3, 4, 5, 0] (lv' := [(0, (3, 90)), (1, (0, a1)), (2, (0, a2)), (3, (0, a3)), (4, (0, a4)), (5, (0, 0))]) rfl ?_
            exact L59 _ 0 V36 ⟨by decide, by decide⟩ hV38 hF39 e40 hp43 hp44 hp45 (by (have e : V36 90 25 = y4 := e41); rw [e]; omega) hT rfl
          · skip
            replace hT := hT.trans (if_neg (Int.not_le.mpr c35))
            refine pm_iconst (v := (-1)) hC dX12_draw_49 ?_
            exact pm_iret hC hR pm_nar0 ⟨(-1), rfl, ⟨by omega, by omega⟩, hV0, (pm_fs.rf (cs := [101, 110, 111, 112]) (fs := [25, 42, 43, 44, 45, 46, 47, 48, 49, 51, 57]) (V := V0)), hn_pm_h3, hT⟩ dX12_draw_50
