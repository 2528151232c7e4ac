set_option maxHeartbeats 4000000 in
set_option maxRecDepth 100000 in
theorem c_X11_knowing_0 (a1 a2 a3 a4 : Int) (h0 : (-2147483648) ≤ a1 ∧ a1 ≤ 2147483647) (h1 : (-2147483648) ≤ a2 ∧ a2 ≤ 2147483647) (h2 : (-2147483648) ≤ a3 ∧ a3 ≤ 2147483647) (h3 : (-2147483648) ≤ a4 ∧ a4 ≤ 2147483647) : pm_K 6 yX11_knowing cX11_knowing 6 (some .int) (fun av V => av = [(3, 0), (0, a1), (0, a2), (0, a3), (0, a4)] ∧ pm_ok 0 90 V) (fun _ V r V' => ∃ y, r = some (0, y) ∧ ((-1) ≤ y ∧ y ≤ 1) ∧ pm_ok 0 90 V' ∧ pm_fr [73, 74, 75, 76, 77] V V') := by
  refine pm_MT.of (by decide) ⟨Nat.le_refl _, by decide⟩ (fun av V h => by rw [h.1]; exact (by decide : pm_words [(3, 0), (0, 0), (0, 0), (0, 0), (0, 0)] ≤ 6)) ?_
  rintro X av V0 hC - hR ⟨rfl, hV0⟩
  change pm_J X 0 [(0, (3, 0)), (1, (0, a1)), (2, (0, a2)), (3, (0, a3)), (4, (0, a4))] [] 118 V0
  refine pm_aload_n hC 0 (by decide) dX11_knowing_0 rfl ?_
  refine pm_iload_n hC 1 dX11_knowing_1 rfl ?_
  refine pm_iload_n hC 2 dX11_knowing_2 rfl ?_
  refine pm_iload_n hC 3 dX11_knowing_3 rfl ?_
  refine pm_iload hC 4 dX11_knowing_4 rfl ?_
  refine pm_callV (ci := 11) (as := [(0, a1), (0, a2), (0, a3), (0, a4)]) (st := []) hC 0 (c_X11_weighs_0 a1 a2 a3 a4 ⟨by omega, by omega⟩ ⟨by omega, by omega⟩ ⟨by omega, by omega⟩ ⟨by omega, by omega⟩) lm_X11_201 li_X11_weighs (by decide) (by decide) rfl rfl rfl (by decide) rfl rfl (Nat.le_of_ble_eq_true rfl) ⟨Nat.le_refl _, Or.inl rfl⟩ dX11_knowing_6 ⟨rfl, hV0⟩ (fun r1 V2 hp3 => ?_)
  obtain ⟨y4, rfl, b5, hV6, hF7⟩ := hp3
  change pm_J X 9 [(0, (3, 0)), (1, (0, a1)), (2, (0, a2)), (3, (0, a3)), (4, (0, a4))] [(0, y4)] 118 V2
  have hF8 := pm_fr.tr (pm_fr.rf (ws := [73, 74, 75, 76, 77]) (V := V0)) hF7 (by decide)
  refine pm_if_ne (tgt := 14) hC ⟨by omega, by omega⟩ dX11_knowing_9 (by decide) (fun c9 => ?_) (fun c9 => ?_)
  · skip
    refine pm_aload_n hC 0 (by decide) dX11_knowing_14 rfl ?_
    have e10 : V2 0 5 = 73 := hV6.one 0 5 (by decide) (by decide) rfl
    refine pm_getf (v := 73) hC 0 fl_X11_75 rfl rfl (by decide) rfl e10 dX11_knowing_15 ?_
    refine pm_callV (ci := 10) (as := []) (st := []) hC 73 c_X10_mostLikely_73 lm_X11_221 li_X10_mostLikely (by decide) (by decide) rfl rfl rfl (by decide) rfl rfl (Nat.le_of_ble_eq_true rfl) ⟨Nat.le_refl _, Or.inl rfl⟩ dX11_knowing_18 ⟨rfl, hV6⟩ (fun r11 V12 hp13 => ?_)
    obtain ⟨y14, rfl, b15, rfl⟩ := hp13
    change pm_J X 21 [(0, (3, 0)), (1, (0, a1)), (2, (0, a2)), (3, (0, a3)), (4, (0, a4))] [(0, y14)] 118 V2
    refine pm_istore (lv' := [(5, (0, y14)), (0, (3, 0)), (1, (0, a1)), (2, (0, a2)), (3, (0, a3)), (4, (0, a4))]) hC dX11_knowing_21 (by decide) rfl ?_
    refine pm_aload_n hC 1 (by decide) dX11_knowing_23 rfl ?_
    refine pm_getf (v := 73) hC 0 fl_X11_75 rfl rfl (by decide) rfl e10 dX11_knowing_24 ?_
    refine pm_iconst (v := 0) hC dX11_knowing_27 ?_
    refine pm_iload hC 5 dX11_knowing_28 rfl ?_
    refine pm_callV (ci := 10) (as := [(0, 0), (0, a4)]) (st := []) hC 73 (c_X10_trustAt_73 0 a4 ⟨by decide, by decide⟩ ⟨by omega, by omega⟩) lm_X11_306 li_X10_trustAt (by decide) (by decide) rfl rfl rfl (by decide) rfl rfl (Nat.le_of_ble_eq_true rfl) ⟨Nat.le_refl _, Or.inl rfl⟩ dX11_knowing_30 ⟨rfl, hV6⟩ (fun r16 V17 hp18 => ?_)
    obtain ⟨rfl, hV19, hF20⟩ := hp18
    change pm_J X 33 [(5, (0, y14)), (0, (3, 0)), (1, (0, a1)), (2, (0, a2)), (3, (0, a3)), (4, (0, a4))] [] 118 V17
    have hF21 := pm_fr.tr hF8 hF20 (by decide)
    have e22 : V17 0 5 = 73 := by rw [hF20 0 (by decide)]; exact e10
    refine pm_aload_n hC 1 (by decide) dX11_knowing_33 rfl ?_
    refine pm_getf (v := 73) hC 0 fl_X11_75 rfl rfl (by decide) rfl e22 dX11_knowing_34 ?_
    refine pm_iload_n hC 2 dX11_knowing_37 rfl ?_
    refine pm_callV (ci := 10) (as := [(0, a1)]) (st := []) hC 73 (c_X10_weigh_73 a1 ⟨by omega, by omega⟩) lm_X11_294 li_X10_weigh (by decide) (by decide) rfl rfl rfl (by decide) rfl rfl (Nat.le_of_ble_eq_true rfl) ⟨Nat.le_refl _, Or.inl rfl⟩ dX11_knowing_38 ⟨rfl, hV19⟩ (fun r23 V24 hp25 => ?_)
    obtain ⟨rfl, hV26, hF27⟩ := hp25
    change pm_J X 41 [(5, (0, y14)), (0, (3, 0)), (1, (0, a1)), (2, (0, a2)), (3, (0, a3)), (4, (0, a4))] [] 118 V24
    have hF28 := pm_fr.tr hF21 hF27 (by decide)
    have e29 : V24 0 5 = 73 := by rw [hF27 0 (by decide)]; exact e22
    refine pm_aload_n hC 1 (by decide) dX11_knowing_41 rfl ?_
    refine pm_getf (v := 73) hC 0 fl_X11_75 rfl rfl (by decide) rfl e29 dX11_knowing_42 ?_
    refine pm_callV (ci := 10) (as := []) (st := []) hC 73 c_X10_mostLikely_73 lm_X11_221 li_X10_mostLikely (by decide) (by decide) rfl rfl rfl (by decide) rfl rfl (Nat.le_of_ble_eq_true rfl) ⟨Nat.le_refl _, Or.inl rfl⟩ dX11_knowing_45 ⟨rfl, hV26⟩ (fun r30 V31 hp32 => ?_)
    obtain ⟨y33, rfl, b34, rfl⟩ := hp32
    change pm_J X 48 [(5, (0, y14)), (0, (3, 0)), (1, (0, a1)), (2, (0, a2)), (3, (0, a3)), (4, (0, a4))] [(0, y33)] 118 V24
    refine pm_iload hC 0 dX11_knowing_48 rfl ?_
    refine pm_icmp_ne (tgt := 57) hC ⟨by omega, by omega⟩ ⟨by omega, by omega⟩ dX11_knowing_50 (by decide) (fun c35 => ?_) (fun c35 => ?_)
    · skip
      refine pm_iconst (v := 0) hC dX11_knowing_57 ?_
      exact pm_iret hC hR pm_nar0 ⟨0, rfl, ⟨by omega, by omega⟩, hV26, hF28⟩ dX11_knowing_58
    · skip
      refine pm_iconst (v := 1) hC dX11_knowing_53 ?_
      refine pm_goto (tgt := 58) hC dX11_knowing_54 (by decide) ?_
      exact pm_iret hC hR pm_nar0 ⟨1, rfl, ⟨by omega, by omega⟩, hV26, hF28⟩ dX11_knowing_58
  · skip
    refine pm_iconst (v := (-1)) hC dX11_knowing_12 ?_
    exact pm_iret hC hR pm_nar0 ⟨(-1), rfl, ⟨by omega, by omega⟩, hV6, hF8⟩ dX11_knowing_13
set_option maxHeartbeats 4000000 in
set_option maxRecDepth 100000 in
theorem c_X11_fillAtoms_0 (a1 : Int) (h0 : (-99) ≤ a1 ∧ a1 ≤ 99) : pm_K 5 yX11_fillAtoms cX11_fillAtoms 2 none (fun av V => av = [(3, 0), (0, a1)] ∧ pm_ok 0 90 V) (fun _ V r V' => r = none ∧ pm_ok 0 90 V' ∧ pm_fr [73, 76, 77, 83] V V') := by
  refine pm_MT.of (by decide) ⟨Nat.le_refl _, by decide⟩ (fun av V h => by rw [h.1]; exact (by decide : pm_words [(3, 0), (0, 0)] ≤ 2)) ?_
  rintro X av V0 hC - hR ⟨rfl, hV0⟩
  change pm_J X 0 [(0, (3, 0)), (1, (0, a1))] [] 118 V0
  refine pm_aload_n hC 0 (by decide) dX11_fillAtoms_0 rfl ?_
  have e1 : V0 0 5 = 73 := hV0.one 0 5 (by decide) (by decide) rfl
  refine pm_getf (v := 73) hC 0 fl_X11_75 rfl rfl (by decide) rfl e1 dX11_fillAtoms_1 ?_
  refine pm_iconst (v := 4) hC dX11_fillAtoms_4 ?_
  refine pm_callV (ci := 10) (as := [(0, 4)]) (st := []) hC 73 (c_X10_weigh_73 4 ⟨by decide, by decide⟩) lm_X11_294 li_X10_weigh (by decide) (by decide) rfl rfl rfl (by decide) rfl rfl (Nat.le_of_ble_eq_true rfl) ⟨Nat.le_refl _, Or.inl rfl⟩ dX11_fillAtoms_5 ⟨rfl, hV0⟩ (fun r2 V3 hp4 => ?_)
  obtain ⟨rfl, hV5, hF6⟩ := hp4
  change pm_J X 8 [(0, (3, 0)), (1, (0, a1))] [] 118 V3
  have hF7 := pm_fr.tr (pm_fr.rf (ws := [73, 76, 77, 83]) (V := V0)) hF6 (by decide)
  have e8 : V3 0 5 = 73 := by rw [hF6 0 (by decide)]; exact e1
  refine pm_aload_n hC 0 (by decide) dX11_fillAtoms_8 rfl ?_
  have e9 : V3 0 7 = 83 := hV5.one 0 7 (by decide) (by decide) rfl
  refine pm_getf (v := 83) hC 0 fl_X11_86 rfl rfl (by decide) rfl e9 dX11_fillAtoms_9 ?_
  refine pm_iconst (v := 0) hC dX11_fillAtoms_12 ?_
  refine pm_aload_n hC 0 (by decide) dX11_fillAtoms_13 rfl ?_
  refine pm_getf (v := 73) hC 0 fl_X11_75 rfl rfl (by decide) rfl e8 dX11_fillAtoms_14 ?_
  refine pm_iconst (v := 3) hC dX11_fillAtoms_17 ?_
  refine pm_callV (ci := 10) (as := [(0, 3)]) (st := [(0, 0), (3, 83)]) hC 73 (c_X10_chanceOfKind_73 3 ⟨by decide, by decide⟩) lm_X11_218 li_X10_chanceOfKind (by decide) (by decide) rfl rfl rfl (by decide) rfl rfl (Nat.le_of_ble_eq_true rfl) ⟨Nat.le_refl _, Or.inl rfl⟩ dX11_fillAtoms_18 ⟨rfl, hV5⟩ (fun r10 V11 hp12 => ?_)
  obtain ⟨y13, rfl, b14, rfl⟩ := hp12
  change pm_J X 21 [(0, (3, 0)), (1, (0, a1))] [(0, y13), (0, 0), (3, 83)] 118 V3
  refine pm_i2l hC ⟨by omega, by omega⟩ dX11_fillAtoms_21 ?_
  refine pm_lastore (len := 7) hC 83 rfl rfl (by decide) ⟨by decide, by decide⟩ (by decide) dX11_fillAtoms_22 ?_
  refine pm_aload_n hC 0 (by decide) dX11_fillAtoms_23 rfl ?_
  refine pm_getf (v := 83) hC 0 fl_X11_86 rfl rfl (by decide) rfl e9 dX11_fillAtoms_24 ?_
  refine pm_iconst (v := 1) hC dX11_fillAtoms_27 ?_
  refine pm_aload_n hC 0 (by decide) dX11_fillAtoms_28 rfl ?_
  refine pm_getf (v := 73) hC 0 fl_X11_75 rfl rfl (by decide) rfl e8 dX11_fillAtoms_29 ?_
  refine pm_callV (ci := 10) (as := []) (st := [(0, 1), (3, 83)]) hC 73 c_X10_chanceNoticed_73 lm_X11_233 li_X10_chanceNoticed (by decide) (by decide) rfl rfl rfl (by decide) rfl rfl (Nat.le_of_ble_eq_true rfl) ⟨Nat.le_refl _, Or.inl rfl⟩ dX11_fillAtoms_32 ⟨rfl, (hV5.put 83 (0 : Int).toNat (x := y13) (lo := (-9223372036854775808)) (hi := 9223372036854775807) rfl ⟨by omega, by omega⟩)⟩ (fun r15 V16 hp17 => ?_)
  obtain ⟨y18, rfl, b19, rfl⟩ := hp17
  change pm_J X 35 [(0, (3, 0)), (1, (0, a1))] [(0, y18), (0, 1), (3, 83)] 118 (pm_up V3 83 (0 : Int).toNat y13)
  refine pm_i2l hC ⟨by omega, by omega⟩ dX11_fillAtoms_35 ?_
  refine pm_lastore (len := 7) hC 83 rfl rfl (by decide) ⟨by decide, by decide⟩ (by decide) dX11_fillAtoms_36 ?_
  refine pm_aload_n hC 0 (by decide) dX11_fillAtoms_37 rfl ?_
  refine pm_getf (v := 83) hC 0 fl_X11_86 rfl rfl (by decide) rfl e9 dX11_fillAtoms_38 ?_
  refine pm_iconst (v := 2) hC dX11_fillAtoms_41 ?_
  refine pm_aload_n hC 0 (by decide) dX11_fillAtoms_42 rfl ?_
  refine pm_getf (v := 73) hC 0 fl_X11_75 rfl rfl (by decide) rfl e8 dX11_fillAtoms_43 ?_
  refine pm_aload_n hC 0 (by decide) dX11_fillAtoms_46 rfl ?_
  refine pm_getf (v := 73) hC 0 fl_X11_75 rfl rfl (by decide) rfl e8 dX11_fillAtoms_47 ?_
  obtain ⟨y20, e21⟩ : ∃ y, V3 73 1 = y := ⟨_, rfl⟩
  have b22 := hV5.get 73 1 (lo := 0) (hi := 8) (by decide) (by decide) rfl
  rw [e21] at b22
  refine pm_getf (v := y20) hC 73 fl_X11_354 rfl rfl (by decide) rfl e21 dX11_fillAtoms_50 ?_
  refine pm_callV (ci := 10) (as := [(0, y20)]) (st := [(0, 2), (3, 83)]) hC 73 (c_X10_chanceOf_73 y20 ⟨by omega, by omega⟩) lm_X11_211 li_X10_chanceOf (by decide) (by decide) rfl rfl rfl (by decide) rfl rfl (Nat.le_of_ble_eq_true rfl) ⟨Nat.le_refl _, Or.inl rfl⟩ dX11_fillAtoms_53 ⟨rfl, ((hV5.put 83 (0 : Int).toNat (x := y13) (lo := (-9223372036854775808)) (hi := 9223372036854775807) rfl ⟨by omega, by omega⟩).put 83 (1 : Int).toNat (x := y18) (lo := (-9223372036854775808)) (hi := 9223372036854775807) rfl ⟨by omega, by omega⟩)⟩ (fun r23 V24 hp25 => ?_)
  obtain ⟨y26, rfl, b27, rfl⟩ := hp25
  change pm_J X 56 [(0, (3, 0)), (1, (0, a1))] [(0, y26), (0, 2), (3, 83)] 118 (pm_up (pm_up V3 83 (0 : Int).toNat y13) 83 (1 : Int).toNat y18)
  refine pm_i2l hC ⟨by omega, by omega⟩ dX11_fillAtoms_56 ?_
  refine pm_lastore (len := 7) hC 83 rfl rfl (by decide) ⟨by decide, by decide⟩ (by decide) dX11_fillAtoms_57 ?_
  refine pm_aload_n hC 0 (by decide) dX11_fillAtoms_58 rfl ?_
  refine pm_getf (v := 83) hC 0 fl_X11_86 rfl rfl (by decide) rfl e9 dX11_fillAtoms_59 ?_
  refine pm_iconst (v := 3) hC dX11_fillAtoms_62 ?_
  refine pm_aload_n hC 0 (by decide) dX11_fillAtoms_63 rfl ?_
  refine pm_getf (v := 73) hC 0 fl_X11_75 rfl rfl (by decide) rfl e8 dX11_fillAtoms_64 ?_
  refine pm_aload_n hC 0 (by decide) dX11_fillAtoms_67 rfl ?_
  refine pm_getf (v := 73) hC 0 fl_X11_75 rfl rfl (by decide) rfl e8 dX11_fillAtoms_68 ?_
  obtain ⟨y28, e29⟩ : ∃ y, V3 73 2 = y := ⟨_, rfl⟩
  have b30 := hV5.get 73 2 (lo := 0) (hi := 8) (by decide) (by decide) rfl
  rw [e29] at b30
  refine pm_getf (v := y28) hC 73 fl_X11_357 rfl rfl (by decide) rfl e29 dX11_fillAtoms_71 ?_
  refine pm_callV (ci := 10) (as := [(0, y28)]) (st := [(0, 3), (3, 83)]) hC 73 (c_X10_chanceOf_73 y28 ⟨by omega, by omega⟩) lm_X11_211 li_X10_chanceOf (by decide) (by decide) rfl rfl rfl (by decide) rfl rfl (Nat.le_of_ble_eq_true rfl) ⟨Nat.le_refl _, Or.inl rfl⟩ dX11_fillAtoms_74 ⟨rfl, (((hV5.put 83 (0 : Int).toNat (x := y13) (lo := (-9223372036854775808)) (hi := 9223372036854775807) rfl ⟨by omega, by omega⟩).put 83 (1 : Int).toNat (x := y18) (lo := (-9223372036854775808)) (hi := 9223372036854775807) rfl ⟨by omega, by omega⟩).put 83 (2 : Int).toNat (x := y26) (lo := (-9223372036854775808)) (hi := 9223372036854775807) rfl ⟨by omega, by omega⟩)⟩ (fun r31 V32 hp33 => ?_)
  obtain ⟨y34, rfl, b35, rfl⟩ := hp33
  change pm_J X 77 [(0, (3, 0)), (1, (0, a1))] [(0, y34), (0, 3), (3, 83)] 118 (pm_up (pm_up (pm_up V3 83 (0 : Int).toNat y13) 83 (1 : Int).toNat y18) 83 (2 : Int).toNat y26)
  refine pm_i2l hC ⟨by omega, by omega⟩ dX11_fillAtoms_77 ?_
  refine pm_lastore (len := 7) hC 83 rfl rfl (by decide) ⟨by decide, by decide⟩ (by decide) dX11_fillAtoms_78 ?_
  refine pm_aload_n hC 0 (by decide) dX11_fillAtoms_79 rfl ?_
  refine pm_getf (v := 83) hC 0 fl_X11_86 rfl rfl (by decide) rfl e9 dX11_fillAtoms_80 ?_
  refine pm_iconst (v := 4) hC dX11_fillAtoms_83 ?_
  refine pm_aload_n hC 0 (by decide) dX11_fillAtoms_84 rfl ?_
  refine pm_getf (v := 73) hC 0 fl_X11_75 rfl rfl (by decide) rfl e8 dX11_fillAtoms_85 ?_
  obtain ⟨y36, e37⟩ : ∃ y, V3 73 3 = y := ⟨_, rfl⟩
  have b38 := hV5.get 73 3 (lo := 0) (hi := 9) (by decide) (by decide) rfl
  rw [e37] at b38
  refine pm_getf (v := y36) hC 73 fl_X11_360 rfl rfl (by decide) rfl e37 dX11_fillAtoms_88 ?_
  refine pm_i2l hC ⟨by omega, by omega⟩ dX11_fillAtoms_91 ?_
  refine pm_lastore (len := 7) hC 83 rfl rfl (by decide) ⟨by decide, by decide⟩ (by decide) dX11_fillAtoms_92 ?_
  refine pm_aload_n hC 0 (by decide) dX11_fillAtoms_93 rfl ?_
  refine pm_getf (v := 83) hC 0 fl_X11_86 rfl rfl (by decide) rfl e9 dX11_fillAtoms_94 ?_
  refine pm_iconst (v := 5) hC dX11_fillAtoms_97 ?_
  refine pm_aload_n hC 0 (by decide) dX11_fillAtoms_98 rfl ?_
  refine pm_getf (v := 73) hC 0 fl_X11_75 rfl rfl (by decide) rfl e8 dX11_fillAtoms_99 ?_
  obtain ⟨y39, e40⟩ : ∃ y, V3 73 4 = y := ⟨_, rfl⟩
  have b41 := hV5.get 73 4 (lo := 0) (hi := 9) (by decide) (by decide) rfl
  rw [e40] at b41
  refine pm_getf (v := y39) hC 73 fl_X11_363 rfl rfl (by decide) rfl e40 dX11_fillAtoms_102 ?_
  refine pm_i2l hC ⟨by omega, by omega⟩ dX11_fillAtoms_105 ?_
  refine pm_lastore (len := 7) hC 83 rfl rfl (by decide) ⟨by decide, by decide⟩ (by decide) dX11_fillAtoms_106 ?_
  refine pm_aload_n hC 0 (by decide) dX11_fillAtoms_107 rfl ?_
  refine pm_getf (v := 83) hC 0 fl_X11_86 rfl rfl (by decide) rfl e9 dX11_fillAtoms_108 ?_
  refine pm_bipush (v := 6) hC dX11_fillAtoms_111 (by decide) ?_
  refine pm_iload_n hC 1 dX11_fillAtoms_113 rfl ?_
  refine pm_mabs hC 4214 4015 1018 4016 ⟨by omega, by omega⟩ (by decide) wL_X11_366 wS_mabs wI_math wC_mabs (Nat.le_of_ble_eq_true rfl) dX11_fillAtoms_114 (fun y42 b43 => ?_)
  have b43 := And.intro b43.1.1 (And.intro b43.1.2 b43.2)
  refine pm_i2l hC ⟨by omega, by omega⟩ dX11_fillAtoms_117 ?_
  refine pm_lastore (len := 7) hC 83 rfl rfl (by decide) ⟨by decide, by decide⟩ (by decide) dX11_fillAtoms_118 ?_
  exact pm_vret hC hR ⟨rfl, (((((((hV5.put 83 (0 : Int).toNat (x := y13) (lo := (-9223372036854775808)) (hi := 9223372036854775807) rfl ⟨by omega, by omega⟩).put 83 (1 : Int).toNat (x := y18) (lo := (-9223372036854775808)) (hi := 9223372036854775807) rfl ⟨by omega, by omega⟩).put 83 (2 : Int).toNat (x := y26) (lo := (-9223372036854775808)) (hi := 9223372036854775807) rfl ⟨by omega, by omega⟩).put 83 (3 : Int).toNat (x := y34) (lo := (-9223372036854775808)) (hi := 9223372036854775807) rfl ⟨by omega, by omega⟩).put 83 (4 : Int).toNat (x := y36) (lo := (-9223372036854775808)) (hi := 9223372036854775807) rfl ⟨by omega, by omega⟩).put 83 (5 : Int).toNat (x := y39) (lo := (-9223372036854775808)) (hi := 9223372036854775807) rfl ⟨by omega, by omega⟩).put 83 (6 : Int).toNat (x := y42) (lo := (-9223372036854775808)) (hi := 9223372036854775807) rfl ⟨by omega, by omega⟩), (((((((hF7.up 83 (0 : Int).toNat y13 rfl).up 83 (1 : Int).toNat y18 rfl).up 83 (2 : Int).toNat y26 rfl).up 83 (3 : Int).toNat y34 rfl).up 83 (4 : Int).toNat y36 rfl).up 83 (5 : Int).toNat y39 rfl).up 83 (6 : Int).toNat y42 rfl)⟩ dX11_fillAtoms_119
set_option maxHeartbeats 4000000 in
set_option maxRecDepth 100000 in
theorem c_X2_pop_57  : pm_K 1 yX2_pop cX2_pop 1 (some .long) (fun av V => av = [(3, 57)] ∧ pm_ok 0 90 V) (fun _ V r V' => ∃ y, r = some (1, y) ∧ ((-9223372036854775808) ≤ y ∧ y ≤ 9223372036854775807) ∧ pm_ok 0 90 V' ∧ pm_fr [57] V V') := by
  refine pm_MT.of (by decide) ⟨Nat.le_refl _, by decide⟩ (fun av V h => by rw [h.1]; exact (by decide : pm_words [(3, 0)] ≤ 1)) ?_
  rintro X av V0 hC - hR ⟨rfl, hV0⟩
  change pm_J X 0 [(0, (3, 57))] [] 118 V0
  refine pm_aload_n hC 0 (by decide) dX2_pop_0 rfl ?_
  obtain ⟨y1, e2⟩ : ∃ y, V0 57 7 = y := ⟨_, rfl⟩
  have b3 := hV0.get 57 7 (lo := 0) (hi := 64) (by decide) (by decide) rfl
  rw [e2] at b3
  refine pm_getf (v := y1) hC 57 fl_X2_35 rfl rfl (by decide) rfl e2 dX2_pop_1 ?_
  refine pm_if_gt (tgt := 9) hC ⟨by omega, by omega⟩ dX2_pop_4 (by decide) (fun c4 => ?_) (fun c4 => ?_)
  · skip
    refine pm_aload_n hC 0 (by decide) dX2_pop_9 rfl ?_
    refine pm_dup hC rfl dX2_pop_10 ?_
    refine pm_getf (v := y1) hC 57 fl_X2_35 rfl rfl (by decide) rfl e2 dX2_pop_11 ?_
    refine pm_iconst (v := 1) hC dX2_pop_14 ?_
    refine pm_isub hC dX2_pop_15 ?_
    refine pm_putf hC 57 fl_X2_35 rfl rfl rfl (by decide) rfl trivial dX2_pop_16 ?_
    refine pm_aload_n hC 0 (by decide) dX2_pop_19 rfl ?_
    have e5 : V0 57 6 = 62 := hV0.one 57 6 (by decide) (by decide) rfl
    refine pm_getf (v := 62) hC 57 fl_X2_31 rfl rfl (by decide) rfl e5 dX2_pop_20 ?_
    refine pm_aload_n hC 0 (by decide) dX2_pop_23 rfl ?_
    refine pm_getf (v := (y1 - 1)) hC 57 fl_X2_35 rfl rfl (by decide) rfl rfl dX2_pop_24 ?_
    obtain ⟨y6, e7⟩ : ∃ y, V0 62 ((y1 - 1) : Int).toNat = y := ⟨_, rfl⟩
    have b8 := hV0.get 62 ((y1 - 1) : Int).toNat (lo := (-9223372036854775808)) (hi := 9223372036854775807) (by decide) (show _ < 64 by omega) rfl
    rw [e7] at b8
    refine pm_laload (len := 64) (v := y6) hC 62 rfl rfl (by decide) ⟨by omega, by omega⟩ (by decide) e7 dX2_pop_27 ?_
    exact pm_lret hC hR ⟨y6, rfl, ⟨by omega, by omega⟩, (hV0.put 57 7 (x := (y1 - 1)) (lo := 0) (hi := 64) rfl ⟨by omega, by omega⟩), ((pm_fr.rf (ws := [57]) (V := V0)).up 57 7 (y1 - 1) rfl)⟩ dX2_pop_28
  · skip
    refine pm_lconst (x := 0) hC dX2_pop_7 rfl ?_
    exact pm_lret hC hR ⟨0, rfl, ⟨by omega, by omega⟩, hV0, (pm_fr.rf (ws := [57]) (V := V0))⟩ dX2_pop_8
set_option maxHeartbeats 4000000 in
set_option maxRecDepth 100000 in
theorem c_X2_bounded (a1 : Int) (h0 : (-9223372036854775808) ≤ a1 ∧ a1 ≤ 9223372036854775807) : pm_K 1 yX2_bounded cX2_bounded 2 (some .long) (fun av V => av = [(1, a1)] ∧ pm_ok 0 90 V) (fun _ V r V' => ∃ y, r = some (1, y) ∧ ((-1000000) ≤ y ∧ y ≤ 1000000) ∧ V = V') := by
  refine pm_MT.of (by decide) ⟨Nat.le_refl _, by decide⟩ (fun av V h => by rw [h.1]; exact (by decide : pm_words [(1, 0)] ≤ 2)) ?_
  rintro X av V0 hC - hR ⟨rfl, hV0⟩
  change pm_J X 0 [(0, (1, a1))] [] 118 V0
  refine pm_ldc2 (v := (-1000000)) hC 5074 dX2_bounded_0 (by decide +kernel) ?_
  refine pm_ldc2 (v := 1000000) hC 5075 dX2_bounded_3 (by decide +kernel) ?_
  refine pm_lload_n hC 0 dX2_bounded_6 rfl ?_
  refine pm_mminL hC 5076 5077 1018 5078 ⟨by decide, by decide⟩ ⟨by omega, by omega⟩ (by decide) wL_X2_58 wS_mminL wI_math wC_mminL (Nat.le_of_ble_eq_true rfl) dX2_bounded_7 (fun y1 b2 => ?_)
  refine pm_mmaxL hC 5079 4169 1018 4170 ⟨by decide, by decide⟩ ⟨by omega, by omega⟩ (by decide) wL_X2_64 wS_mmaxL wI_math wC_mmaxL (Nat.le_of_ble_eq_true rfl) dX2_bounded_10 (fun y3 b4 => ?_)
  exact pm_lret hC hR ⟨y3, rfl, ⟨by omega, by omega⟩, rfl⟩ dX2_bounded_13
set_option maxHeartbeats 4000000 in
set_option maxRecDepth 100000 in
theorem c_X2_push_57 (a1 : Int) (h0 : (-9223372036854775808) ≤ a1 ∧ a1 ≤ 9223372036854775807) : pm_K 1 yX2_push cX2_push 3 none (fun av V => av = [(3, 57), (1, a1)] ∧ pm_ok 0 90 V) (fun _ V r V' => r = none ∧ pm_ok 0 90 V' ∧ pm_fr [57, 62] V V') := by
  refine pm_MT.of (by decide) ⟨Nat.le_refl _, by decide⟩ (fun av V h => by rw [h.1]; exact (by decide : pm_words [(3, 0), (1, 0)] ≤ 3)) ?_
  rintro X av V0 hC - hR ⟨rfl, hV0⟩
  change pm_J X 0 [(0, (3, 57)), (1, (1, a1))] [] 118 V0
  refine pm_aload_n hC 0 (by decide) dX2_push_0 rfl ?_
  obtain ⟨y1, e2⟩ : ∃ y, V0 57 7 = y := ⟨_, rfl⟩
  have b3 := hV0.get 57 7 (lo := 0) (hi := 64) (by decide) (by decide) rfl
  rw [e2] at b3
  refine pm_getf (v := y1) hC 57 fl_X2_35 rfl rfl (by decide) rfl e2 dX2_push_1 ?_
  refine pm_bipush (v := 64) hC dX2_push_4 (by decide) ?_
  refine pm_icmp_ge (tgt := 29) hC ⟨by omega, by omega⟩ ⟨by decide, by decide⟩ dX2_push_6 (by decide) (fun c4 => ?_) (fun c4 => ?_)
  · skip
    exact pm_vret hC hR ⟨rfl, hV0, (pm_fr.rf (ws := [57, 62]) (V := V0))⟩ dX2_push_29
  · skip
    refine pm_aload_n hC 0 (by decide) dX2_push_9 rfl ?_
    have e5 : V0 57 6 = 62 := hV0.one 57 6 (by decide) (by decide) rfl
    refine pm_getf (v := 62) hC 57 fl_X2_31 rfl rfl (by decide) rfl e5 dX2_push_10 ?_
    refine pm_aload_n hC 0 (by decide) dX2_push_13 rfl ?_
    refine pm_getf (v := y1) hC 57 fl_X2_35 rfl rfl (by decide) rfl e2 dX2_push_14 ?_
    refine pm_lload_n hC 1 dX2_push_17 rfl ?_
    refine pm_lastore (len := 64) hC 62 rfl rfl (by decide) ⟨by omega, by omega⟩ (by decide) dX2_push_18 ?_
    refine pm_aload_n hC 0 (by decide) dX2_push_19 rfl ?_
    refine pm_dup hC rfl dX2_push_20 ?_
    refine pm_getf (v := y1) hC 57 fl_X2_35 rfl rfl (by decide) rfl e2 dX2_push_21 ?_
    refine pm_iconst (v := 1) hC dX2_push_24 ?_
    refine pm_iadd hC dX2_push_25 ?_
    refine pm_putf hC 57 fl_X2_35 rfl rfl rfl (by decide) rfl trivial dX2_push_26 ?_
    exact pm_vret hC hR ⟨rfl, ((hV0.put 62 (y1 : Int).toNat (x := a1) (lo := (-9223372036854775808)) (hi := 9223372036854775807) rfl ⟨by omega, by omega⟩).put 57 7 (x := (y1 + 1)) (lo := 0) (hi := 64) rfl ⟨by omega, by omega⟩), (((pm_fr.rf (ws := [57, 62]) (V := V0)).up 62 (y1 : Int).toNat a1 rfl).up 57 7 (y1 + 1) rfl)⟩ dX2_push_29
set_option maxHeartbeats 4000000 in
set_option maxRecDepth 100000 in
theorem c_X2_applies_57 (a1 : Int) (h0 : (-2147483648) ≤ a1 ∧ a1 ≤ 2147483647) : pm_K 2 yX2_applies cX2_applies 6 (some .boolean) (fun av V => av = [(3, 57), (0, a1)] ∧ pm_ok 0 90 V) (fun _ V r V' => ∃ y, r = some (0, y) ∧ (0 ≤ y ∧ y ≤ 1) ∧ pm_ok 0 90 V' ∧ pm_fr [57, 62] V V') := by
  refine pm_MT.of (by decide) ⟨Nat.le_refl _, by decide⟩ (fun av V h => by rw [h.1]; exact (by decide : pm_words [(3, 0), (0, 0)] ≤ 6)) ?_
  rintro X av V0 hC - hR ⟨rfl, hV0⟩
  change pm_J X 0 [(0, (3, 57)), (1, (0, a1))] [] 118 V0
  refine pm_aload_n hC 0 (by decide) dX2_applies_0 rfl ?_
  refine pm_callV (ci := 2) (as := []) (st := []) hC 57 c_X2_pop_57 lm_X2_46 li_X2_pop (by decide) (by decide) rfl rfl rfl (by decide) rfl rfl (Nat.le_of_ble_eq_true rfl) ⟨Nat.le_refl _, Or.inl rfl⟩ dX2_applies_1 ⟨rfl, hV0⟩ (fun r1 V2 hp3 => ?_)
  obtain ⟨y4, rfl, b5, hV6, hF7⟩ := hp3
  change pm_J X 4 [(0, (3, 57)), (1, (0, a1))] [(1, y4)] 118 V2
  have hF8 := pm_fr.tr (pm_fr.rf (ws := [57, 62]) (V := V0)) hF7 (by decide)
  refine pm_lstore_n (lv' := [(2, (1, y4)), (0, (3, 57)), (1, (0, a1))]) hC dX2_applies_4 (by decide) rfl ?_
  refine pm_aload_n hC 1 (by decide) dX2_applies_5 rfl ?_
  refine pm_callV (ci := 2) (as := []) (st := []) hC 57 c_X2_pop_57 lm_X2_46 li_X2_pop (by decide) (by decide) rfl rfl rfl (by decide) rfl rfl (Nat.le_of_ble_eq_true rfl) ⟨Nat.le_refl _, Or.inl rfl⟩ dX2_applies_6 ⟨rfl, hV6⟩ (fun r9 V10 hp11 => ?_)
  obtain ⟨y12, rfl, b13, hV14, hF15⟩ := hp11
  change pm_J X 9 [(2, (1, y4)), (0, (3, 57)), (1, (0, a1))] [(1, y12)] 118 V10
  have hF16 := pm_fr.tr hF8 hF15 (by decide)
  refine pm_lstore (lv' := [(4, (1, y12)), (2, (1, y4)), (0, (3, 57)), (1, (0, a1))]) hC dX2_applies_9 (by decide) rfl ?_
  refine pm_iload_n hC 3 dX2_applies_11 rfl ?_
  rcases (show (a1 ≠ 42 ∧ a1 ≠ 43 ∧ a1 ≠ 45 ∧ a1 ≠ 60) ∨ a1 = 42 ∨ a1 = 43 ∨ a1 = 45 ∨ a1 = 60 by omega) with c17 | c17 | c17 | c17 | c17
  · skip
    refine pm_lookup (tgt := 108) (off := 96) hC ⟨by omega, by omega⟩ dX2_applies_12 (by decide) (by simp [Op.lookupswitch.offset, List.find?, (show ¬ 42 = a1 by omega), (show ¬ 43 = a1 by omega), (show ¬ 45 = a1 by omega), (show ¬ 60 = a1 by omega)]) (by decide) ?_
    refine pm_lload hC 0 dX2_applies_108 rfl ?_
    refine pm_lload_n hC 1 dX2_applies_110 rfl ?_
    refine pm_lcmp hC ⟨by omega, by omega⟩ ⟨by omega, by omega⟩ dX2_applies_111 (fun y18 b19 => ?_)
    refine pm_if_ne (tgt := 119) hC ⟨by omega, by omega⟩ dX2_applies_112 (by decide) (fun c20 => ?_) (fun c20 => ?_)
    · skip
      refine pm_iconst (v := 0) hC dX2_applies_119 ?_
      exact pm_iret hC hR (pm_narZ (by omega)) ⟨0, rfl, ⟨by omega, by omega⟩, hV14, hF16⟩ dX2_applies_120
    · skip
      refine pm_iconst (v := 1) hC dX2_applies_115 ?_
      refine pm_goto (tgt := 120) hC dX2_applies_116 (by decide) ?_
      exact pm_iret hC hR (pm_narZ (by omega)) ⟨1, rfl, ⟨by omega, by omega⟩, hV14, hF16⟩ dX2_applies_120
  · skip
    refine pm_lookup (tgt := 82) (off := 70) hC ⟨by omega, by omega⟩ dX2_applies_12 (by decide) (by rw [c17]; rfl) (by decide) ?_
    refine pm_aload_n hC 2 (by decide) dX2_applies_82 rfl ?_
    refine pm_lload hC 0 dX2_applies_83 rfl ?_
    refine pm_lload_n hC 1 dX2_applies_85 rfl ?_
    refine pm_lmul hC dX2_applies_86 ?_
    refine pm_someL hC (fun y21 b22 => ?_)
    have b22 := And.intro b22.1 b22.2
    refine pm_callS (as := [(1, y21)]) (st := [(3, 57)]) hC (c_X2_bounded y21 ⟨by omega, by omega⟩) lm_X2_50 ls_X2_bounded (by decide) (by decide) rfl rfl (Nat.le_of_ble_eq_true rfl) ⟨Nat.le_refl _, Or.inl rfl⟩ dX2_applies_87 ⟨rfl, hV14⟩ (fun r23 V24 hp25 => ?_)
    obtain ⟨y26, rfl, b27, rfl⟩ := hp25
    change pm_J X 90 [(4, (1, y12)), (2, (1, y4)), (0, (3, 57)), (1, (0, a1))] [(1, y26), (3, 57)] 118 V10
    refine pm_callV (ci := 2) (as := [(1, y26)]) (st := []) hC 57 (c_X2_push_57 y26 ⟨by omega, by omega⟩) lm_X2_38 li_X2_push (by decide) (by decide) rfl rfl rfl (by decide) rfl rfl (Nat.le_of_ble_eq_true rfl) ⟨Nat.le_refl _, Or.inl rfl⟩ dX2_applies_90 ⟨rfl, hV14⟩ (fun r28 V29 hp30 => ?_)
    obtain ⟨rfl, hV31, hF32⟩ := hp30
    change pm_J X 93 [(4, (1, y12)), (2, (1, y4)), (0, (3, 57)), (1, (0, a1))] [] 118 V29
    have hF33 := pm_fr.tr hF16 hF32 (by decide)
    refine pm_iconst (v := 1) hC dX2_applies_93 ?_
    exact pm_iret hC hR (pm_narZ (by omega)) ⟨1, rfl, ⟨by omega, by omega⟩, hV31, hF33⟩ dX2_applies_94
  · skip
    refine pm_lookup (tgt := 56) (off := 44) hC ⟨by omega, by omega⟩ dX2_applies_12 (by decide) (by rw [c17]; rfl) (by decide) ?_
    refine pm_aload_n hC 2 (by decide) dX2_applies_56 rfl ?_
    refine pm_lload hC 0 dX2_applies_57 rfl ?_
    refine pm_lload_n hC 1 dX2_applies_59 rfl ?_
    refine pm_ladd hC dX2_applies_60 ?_
    refine pm_someL hC (fun y34 b35 => ?_)
    have b35 := And.intro b35.1 b35.2
    refine pm_callS (as := [(1, y34)]) (st := [(3, 57)]) hC (c_X2_bounded y34 ⟨by omega, by omega⟩) lm_X2_50 ls_X2_bounded (by decide) (by decide) rfl rfl (Nat.le_of_ble_eq_true rfl) ⟨Nat.le_refl _, Or.inl rfl⟩ dX2_applies_61 ⟨rfl, hV14⟩ (fun r36 V37 hp38 => ?_)
    obtain ⟨y39, rfl, b40, rfl⟩ := hp38
    change pm_J X 64 [(4, (1, y12)), (2, (1, y4)), (0, (3, 57)), (1, (0, a1))] [(1, y39), (3, 57)] 118 V10
    refine pm_callV (ci := 2) (as := [(1, y39)]) (st := []) hC 57 (c_X2_push_57 y39 ⟨by omega, by omega⟩) lm_X2_38 li_X2_push (by decide) (by decide) rfl rfl rfl (by decide) rfl rfl (Nat.le_of_ble_eq_true rfl) ⟨Nat.le_refl _, Or.inl rfl⟩ dX2_applies_64 ⟨rfl, hV14⟩ (fun r41 V42 hp43 => ?_)
    obtain ⟨rfl, hV44, hF45⟩ := hp43
    change pm_J X 67 [(4, (1, y12)), (2, (1, y4)), (0, (3, 57)), (1, (0, a1))] [] 118 V42
    have hF46 := pm_fr.tr hF16 hF45 (by decide)
    refine pm_iconst (v := 1) hC dX2_applies_67 ?_
    exact pm_iret hC hR (pm_narZ (by omega)) ⟨1, rfl, ⟨by omega, by omega⟩, hV44, hF46⟩ dX2_applies_68
  · skip
    refine pm_lookup (tgt := 69) (off := 57) hC ⟨by omega, by omega⟩ dX2_applies_12 (by decide) (by rw [c17]; rfl) (by decide) ?_
    refine pm_aload_n hC 2 (by decide) dX2_applies_69 rfl ?_
    refine pm_lload hC 0 dX2_applies_70 rfl ?_
    refine pm_lload_n hC 1 dX2_applies_72 rfl ?_
    refine pm_lsub hC dX2_applies_73 ?_
    refine pm_someL hC (fun y47 b48 => ?_)
    have b48 := And.intro b48.1 b48.2
    refine pm_callS (as := [(1, y47)]) (st := [(3, 57)]) hC (c_X2_bounded y47 ⟨by omega, by omega⟩) lm_X2_50 ls_X2_bounded (by decide) (by decide) rfl rfl (Nat.le_of_ble_eq_true rfl) ⟨Nat.le_refl _, Or.inl rfl⟩ dX2_applies_74 ⟨rfl, hV14⟩ (fun r49 V50 hp51 => ?_)
    obtain ⟨y52, rfl, b53, rfl⟩ := hp51
    change pm_J X 77 [(4, (1, y12)), (2, (1, y4)), (0, (3, 57)), (1, (0, a1))] [(1, y52), (3, 57)] 118 V10
    refine pm_callV (ci := 2) (as := [(1, y52)]) (st := []) hC 57 (c_X2_push_57 y52 ⟨by omega, by omega⟩) lm_X2_38 li_X2_push (by decide) (by decide) rfl rfl rfl (by decide) rfl rfl (Nat.le_of_ble_eq_true rfl) ⟨Nat.le_refl _, Or.inl rfl⟩ dX2_applies_77 ⟨rfl, hV14⟩ (fun r54 V55 hp56 => ?_)
    obtain ⟨rfl, hV57, hF58⟩ := hp56
    change pm_J X 80 [(4, (1, y12)), (2, (1, y4)), (0, (3, 57)), (1, (0, a1))] [] 118 V55
    have hF59 := pm_fr.tr hF16 hF58 (by decide)
    refine pm_iconst (v := 1) hC dX2_applies_80 ?_
    exact pm_iret hC hR (pm_narZ (by omega)) ⟨1, rfl, ⟨by omega, by omega⟩, hV57, hF59⟩ dX2_applies_81
  · skip
    refine pm_lookup (tgt := 95) (off := 83) hC ⟨by omega, by omega⟩ dX2_applies_12 (by decide) (by rw [c17]; rfl) (by decide) ?_
    refine pm_lload hC 0 dX2_applies_95 rfl ?_
    refine pm_lload_n hC 1 dX2_applies_97 rfl ?_
    refine pm_lcmp hC ⟨by omega, by omega⟩ ⟨by omega, by omega⟩ dX2_applies_98 (fun y60 b61 => ?_)
    refine pm_if_ge (tgt := 106) hC ⟨by omega, by omega⟩ dX2_applies_99 (by decide) (fun c62 => ?_) (fun c62 => ?_)
    · skip
      refine pm_iconst (v := 0) hC dX2_applies_106 ?_
      exact pm_iret hC hR (pm_narZ (by omega)) ⟨0, rfl, ⟨by omega, by omega⟩, hV14, hF16⟩ dX2_applies_107
    · skip
      refine pm_iconst (v := 1) hC dX2_applies_102 ?_
      refine pm_goto (tgt := 107) hC dX2_applies_103 (by decide) ?_
      exact pm_iret hC hR (pm_narZ (by omega)) ⟨1, rfl, ⟨by omega, by omega⟩, hV14, hF16⟩ dX2_applies_107
set_option maxHeartbeats 4000000 in
set_option maxRecDepth 100000 in
theorem c_X2_holds_57_83 (a1 : Int) (h0 : 0 ≤ a1 ∧ a1 ≤ 9) : pm_K 3 yX2_holds cX2_holds 6 (some .boolean) (fun av V => av = [(3, 57), (0, a1), (3, 83)] ∧ pm_ok 0 90 V) (fun _ V r V' => ∃ y, r = some (0, y) ∧ (0 ≤ y ∧ y ≤ 1) ∧ pm_ok 0 90 V' ∧ pm_fr [57, 62] V V') := by
  refine pm_MT.of (by decide) ⟨Nat.le_refl _, by decide⟩ (fun av V h => by rw [h.1]; exact (by decide : pm_words [(3, 0), (0, 0), (3, 0)] ≤ 6)) ?_
  rintro X av V0 hC - hR ⟨rfl, hV0⟩
  change pm_J X 0 [(0, (3, 57)), (1, (0, a1)), (2, (3, 83))] [] 118 V0
  refine pm_aload_n hC 0 (by decide) dX2_holds_0 rfl ?_
  refine pm_iconst (v := 0) hC dX2_holds_1 ?_
  refine pm_putf hC 57 fl_X2_35 rfl rfl rfl (by decide) rfl trivial dX2_holds_2 ?_
  refine pm_aload_n hC 0 (by decide) dX2_holds_5 rfl ?_
  have e1 : V0 57 2 = 59 := hV0.one 57 2 (by decide) (by decide) rfl
  refine pm_getf (v := 59) hC 57 fl_X2_19 rfl rfl (by decide) rfl e1 dX2_holds_6 ?_
  refine pm_iload_n hC 1 dX2_holds_9 rfl ?_
  obtain ⟨y2, e3⟩ : ∃ y, V0 59 (a1 : Int).toNat = y := ⟨_, rfl⟩
  have b4 := hV0.get 59 (a1 : Int).toNat (lo := 0) (hi := 500) (by decide) (show _ < 10 by omega) rfl
  rw [e3] at b4
  refine pm_iaload (len := 10) (v := y2) hC 59 rfl rfl (by decide) ⟨by omega, by omega⟩ (by decide) e3 dX2_holds_10 ?_
  refine pm_istore_n (lv' := [(3, (0, y2)), (0, (3, 57)), (1, (0, a1)), (2, (3, 83))]) hC dX2_holds_11 (by decide) rfl ?_
  have hV7 := (hV0.put 57 7 (x := 0) (lo := 0) (hi := 64) rfl ⟨by decide, by decide⟩)
  have hF8 := ((pm_fr.rf (ws := [57, 62]) (V := V0)).up 57 7 0 rfl)
  obtain ⟨V5, hv6⟩ : ∃ V, V = (pm_up V0 57 7 0) := ⟨_, rfl⟩
  rw [← hv6] at hV7 hF8
  rw [← hv6]
  have e9 : V5 57 2 = 59 := by rw [hv6]; exact e1
  have e10 : V5 57 7 = 0 := by rw [hv6]; rfl
  have L16 : ∀ (N18 : Nat) (x11 : Int) (V13 : pm_M), (0 ≤ x11 ∧ x11 ≤ 500) → pm_ok 0 90 V13 → pm_fr [57, 62] V0 V13 → (Int.toNat (500 - x11)) = N18 → pm_J X 12 [(0, (3, 57)), (1, (0, a1)), (2, (3, 83)), (3, (0, x11))] [] 118 V13 := by
    intro N18
    induction N18 using Nat.strongRecOn with
    | _ N18 ih19 =>
    intro x11 V13 b12 hV14 hF15 hm17
    refine pm_iload_n hC 3 dX2_holds_12 rfl ?_
    refine pm_aload_n hC 0 (by decide) dX2_holds_13 rfl ?_
    have e20 : V13 57 3 = 60 := hV14.one 57 3 (by decide) (by decide) rfl
    refine pm_getf (v := 60) hC 57 fl_X2_22 rfl rfl (by decide) rfl e20 dX2_holds_14 ?_
    refine pm_iload_n hC 1 dX2_holds_17 rfl ?_
    obtain ⟨y21, e22⟩ : ∃ y, V13 60 (a1 : Int).toNat = y := ⟨_, rfl⟩
    have b23 := hV14.get 60 (a1 : Int).toNat (lo := 0) (hi := 500) (by decide) (show _ < 10 by omega) rfl
    rw [e22] at b23
    refine pm_iaload (len := 10) (v := y21) hC 60 rfl rfl (by decide) ⟨by omega, by omega⟩ (by decide) e22 dX2_holds_18 ?_
    refine pm_icmp_ge (tgt := 107) hC ⟨by omega, by omega⟩ ⟨by omega, by omega⟩ dX2_holds_19 (by decide) (fun c24 => ?_) (fun c24 => ?_)
    · skip
      refine pm_iconst (v := 1) hC dX2_holds_107 ?_
      exact pm_iret hC hR (pm_narZ (by omega)) ⟨1, rfl, ⟨by omega, by omega⟩, hV14, hF15⟩ dX2_holds_108
    · skip
      refine pm_aload_n hC 0 (by decide) dX2_holds_22 rfl ?_
      have e25 : V13 57 4 = 61 := hV14.one 57 4 (by decide) (by decide) rfl
      refine pm_getf (v := 61) hC 57 fl_X2_25 rfl rfl (by decide) rfl e25 dX2_holds_23 ?_
      refine pm_iload_n hC 3 dX2_holds_26 rfl ?_
      obtain ⟨y26, e27⟩ : ∃ y, V13 61 (x11 : Int).toNat = y := ⟨_, rfl⟩
      have b28 := hV14.get 61 (x11 : Int).toNat (lo := 0) (hi := 30000) (by decide) (show _ < 500 by omega) rfl
      rw [e27] at b28
      refine pm_iaload (len := 500) (v := y26) hC 61 rfl rfl (by decide) ⟨by omega, by omega⟩ (by decide) e27 dX2_holds_27 ?_
      refine pm_istore (lv' := [(4, (0, y26)), (0, (3, 57)), (1, (0, a1)), (2, (3, 83)), (3, (0, x11))]) hC dX2_holds_28 (by decide) rfl ?_
      refine pm_iload hC 0 dX2_holds_30 rfl ?_
      refine pm_sipush (v := 10000) hC dX2_holds_32 (by decide) ?_
      refine pm_icmp_ge (tgt := 48) hC ⟨by omega, by omega⟩ ⟨by decide, by decide⟩ dX2_holds_35 (by decide) (fun c29 => ?_) (fun c29 => ?_)
      · skip
        refine pm_iload hC 0 dX2_holds_48 rfl ?_
        refine pm_sipush (v := 20000) hC dX2_holds_50 (by decide) ?_
        refine pm_icmp_ge (tgt := 86) hC ⟨by omega, by omega⟩ ⟨by decide, by decide⟩ dX2_holds_53 (by decide) (fun c30 => ?_) (fun c30 => ?_)
        · skip
          refine pm_aload_n hC 1 (by decide) dX2_holds_86 rfl ?_
          refine pm_iload hC 0 dX2_holds_87 rfl ?_
          refine pm_sipush (v := 20000) hC dX2_holds_89 (by decide) ?_
          refine pm_isub hC dX2_holds_92 ?_
          refine pm_callV (ci := 2) (as := [(0, (y26 - 20000))]) (st := []) hC 57 (c_X2_applies_57 (y26 - 20000) ⟨by omega, by omega⟩) lm_X2_42 li_X2_applies (by decide) (by decide) rfl rfl rfl (by decide) rfl rfl (Nat.le_of_ble_eq_true rfl) ⟨Nat.le_refl _, Or.inl rfl⟩ dX2_holds_93 ⟨rfl, hV14⟩ (fun r31 V32 hp33 => ?_)
          obtain ⟨y34, rfl, b35, hV36, hF37⟩ := hp33
          change pm_J X 96 [(4, (0, y26)), (0, (3, 57)), (1, (0, a1)), (2, (3, 83)), (3, (0, x11))] [(0, y34)] 118 V32
          have hF38 := pm_fr.tr hF15 hF37 (by decide)
          refine pm_if_ne (tgt := 101) hC ⟨by omega, by omega⟩ dX2_holds_96 (by decide) (fun c39 => ?_) (fun c39 => ?_)
          · skip
            obtain ⟨x40, ei41⟩ : ∃ y : Int, x11 + 1 = y := ⟨_, rfl⟩
            refine pm_iinc (y := x40) (lv' := [(3, (0, x40)), (4, (0, y26)), (0, (3, 57)), (1, (0, a1)), (2, (3, 83))]) hC 4 dX2_holds_101 (by decide) rfl ei41 rfl ?_
            refine pm_goto (tgt := 12) hC dX2_holds_104 (by decide) ?_
            refine pm_lvsub [2, 3, 4, 0] (lv' := [(0, (3, 57)), (1, (0, a1)), (2, (3, 83)), (3, (0, x40))]) rfl ?_
            exact ih19 _ (by omega) x40 V32 ⟨by omega, by omega⟩ hV36 hF38 rfl
          · skip
            refine pm_iconst (v := 0) hC dX2_holds_99 ?_
            exact pm_iret hC hR (pm_narZ (by omega)) ⟨0, rfl, ⟨by omega, by omega⟩, hV36, hF38⟩ dX2_holds_100
        · skip
          refine pm_iload hC 0 dX2_holds_56 rfl ?_
          refine pm_sipush (v := 10000) hC dX2_holds_58 (by decide) ?_
          refine pm_isub hC dX2_holds_61 ?_
          refine pm_istore (lv' := [(5, (0, (y26 - 10000))), (4, (0, y26)), (0, (3, 57)), (1, (0, a1)), (2, (3, 83)), (3, (0, x11))]) hC dX2_holds_62 (by decide) rfl ?_
          refine pm_aload_n hC 2 (by decide) dX2_holds_64 rfl ?_
          refine pm_iload hC 0 dX2_holds_65 rfl ?_
          refine pm_aload_n hC 4 (by decide) dX2_holds_67 rfl ?_
          refine pm_alen hC 83 rfl (by decide) rfl (by decide) dX2_holds_68 ?_
          change pm_J X 69 [(5, (0, (y26 - 10000))), (4, (0, y26)), (0, (3, 57)), (1, (0, a1)), (2, (3, 83)), (3, (0, x11))] [(0, 7), (0, (y26 - 10000)), (3, 57)] 118 V13
          refine pm_icmp_ge (tgt := 79) hC ⟨by omega, by omega⟩ ⟨by decide, by decide⟩ dX2_holds_69 (by decide) (fun c42 => ?_) (fun c42 => ?_)
          · skip
            refine pm_lconst (x := 0) hC dX2_holds_79 rfl ?_
            refine pm_callV (ci := 2) (as := [(1, 0)]) (st := []) hC 57 (c_X2_push_57 0 ⟨by decide, by decide⟩) lm_X2_38 li_X2_push (by decide) (by decide) rfl rfl rfl (by decide) rfl rfl (Nat.le_of_ble_eq_true rfl) ⟨Nat.le_refl _, Or.inl rfl⟩ dX2_holds_80 ⟨rfl, hV14⟩ (fun r43 V44 hp45 => ?_)
            obtain ⟨rfl, hV46, hF47⟩ := hp45
            change pm_J X 83 [(5, (0, (y26 - 10000))), (4, (0, y26)), (0, (3, 57)), (1, (0, a1)), (2, (3, 83)), (3, (0, x11))] [] 118 V44
            have hF48 := pm_fr.tr hF15 hF47 (by decide)
            refine pm_goto (tgt := 101) hC dX2_holds_83 (by decide) ?_
            obtain ⟨x49, ei50⟩ : ∃ y : Int, x11 + 1 = y := ⟨_, rfl⟩
            refine pm_iinc (y := x49) (lv' := [(3, (0, x49)), (5, (0, (y26 - 10000))), (4, (0, y26)), (0, (3, 57)), (1, (0, a1)), (2, (3, 83))]) hC 5 dX2_holds_101 (by decide) rfl ei50 rfl ?_
            refine pm_goto (tgt := 12) hC dX2_holds_104 (by decide) ?_
            refine pm_lvsub [3, 4, 5, 0] (lv' := [(0, (3, 57)), (1, (0, a1)), (2, (3, 83)), (3, (0, x49))]) rfl ?_
            exact ih19 _ (by omega) x49 V44 ⟨by omega, by omega⟩ hV46 hF48 rfl
          · skip
            refine pm_aload_n hC 4 (by decide) dX2_holds_72 rfl ?_
            refine pm_iload hC 0 dX2_holds_73 rfl ?_
            obtain ⟨y51, e52⟩ : ∃ y, V13 83 ((y26 - 10000) : Int).toNat = y := ⟨_, rfl⟩
            have b53 := hV14.get 83 ((y26 - 10000) : Int).toNat (lo := (-9223372036854775808)) (hi := 9223372036854775807) (by decide) (show _ < 7 by omega) rfl
            rw [e52] at b53
            refine pm_laload (len := 7) (v := y51) hC 83 rfl rfl (by decide) ⟨by omega, by omega⟩ (by decide) e52 dX2_holds_75 ?_
            refine pm_goto (tgt := 80) hC dX2_holds_76 (by decide) ?_
            refine pm_callV (ci := 2) (as := [(1, y51)]) (st := []) hC 57 (c_X2_push_57 y51 ⟨by omega, by omega⟩) lm_X2_38 li_X2_push (by decide) (by decide) rfl rfl rfl (by decide) rfl rfl (Nat.le_of_ble_eq_true rfl) ⟨Nat.le_refl _, Or.inl rfl⟩ dX2_holds_80 ⟨rfl, hV14⟩ (fun r54 V55 hp56 => ?_)
            obtain ⟨rfl, hV57, hF58⟩ := hp56
            change pm_J X 83 [(5, (0, (y26 - 10000))), (4, (0, y26)), (0, (3, 57)), (1, (0, a1)), (2, (3, 83)), (3, (0, x11))] [] 118 V55
            have hF59 := pm_fr.tr hF15 hF58 (by decide)
            refine pm_goto (tgt := 101) hC dX2_holds_83 (by decide) ?_
            obtain ⟨x60, ei61⟩ : ∃ y : Int, x11 + 1 = y := ⟨_, rfl⟩
            refine pm_iinc (y := x60) (lv' := [(3, (0, x60)), (5, (0, (y26 - 10000))), (4, (0, y26)), (0, (3, 57)), (1, (0, a1)), (2, (3, 83))]) hC 5 dX2_holds_101 (by decide) rfl ei61 rfl ?_
            refine pm_goto (tgt := 12) hC dX2_holds_104 (by decide) ?_
            refine pm_lvsub [3, 4, 5, 0] (lv' := [(0, (3, 57)), (1, (0, a1)), (2, (3, 83)), (3, (0, x60))]) rfl ?_
            exact ih19 _ (by omega) x60 V55 ⟨by omega, by omega⟩ hV57 hF59 rfl
      · skip
        refine pm_aload_n hC 1 (by decide) dX2_holds_38 rfl ?_
        refine pm_iload hC 0 dX2_holds_39 rfl ?_
        refine pm_i2l hC ⟨by omega, by omega⟩ dX2_holds_41 ?_
        refine pm_callV (ci := 2) (as := [(1, y26)]) (st := []) hC 57 (c_X2_push_57 y26 ⟨by omega, by omega⟩) lm_X2_38 li_X2_push (by decide) (by decide) rfl rfl rfl (by decide) rfl rfl (Nat.le_of_ble_eq_true rfl) ⟨Nat.le_refl _, Or.inl rfl⟩ dX2_holds_42 ⟨rfl, hV14⟩ (fun r62 V63 hp64 => ?_)
        obtain ⟨rfl, hV65, hF66⟩ := hp64
        change pm_J X 45 [(4, (0, y26)), (0, (3, 57)), (1, (0, a1)), (2, (3, 83)), (3, (0, x11))] [] 118 V63
        have hF67 := pm_fr.tr hF15 hF66 (by decide)
        refine pm_goto (tgt := 101) hC dX2_holds_45 (by decide) ?_
        obtain ⟨x68, ei69⟩ : ∃ y : Int, x11 + 1 = y := ⟨_, rfl⟩
        refine pm_iinc (y := x68) (lv' := [(3, (0, x68)), (4, (0, y26)), (0, (3, 57)), (1, (0, a1)), (2, (3, 83))]) hC 4 dX2_holds_101 (by decide) rfl ei69 rfl ?_
        refine pm_goto (tgt := 12) hC dX2_holds_104 (by decide) ?_
        refine pm_lvsub [2, 3, 4, 0] (lv' := [(0, (3, 57)), (1, (0, a1)), (2, (3, 83)), (3, (0, x68))]) rfl ?_
        exact ih19 _ (by omega) x68 V63 ⟨by omega, by omega⟩ hV65 hF67 rfl
  refine pm_lvsub [1, 2, 3, 0] (lv' := [(0, (3, 57)), (1, (0, a1)), (2, (3, 83)), (3, (0, y2))]) rfl ?_
  exact L16 _ y2 V5 ⟨by omega, by omega⟩ hV7 hF8 rfl
set_option maxHeartbeats 4000000 in
set_option maxRecDepth 100000 in
theorem c_X2_pop_63  : pm_K 1 yX2_pop cX2_pop 1 (some .long) (fun av V => av = [(3, 63)] ∧ pm_ok 0 90 V) (fun _ V r V' => ∃ y, r = some (1, y) ∧ ((-9223372036854775808) ≤ y ∧ y ≤ 9223372036854775807) ∧ pm_ok 0 90 V' ∧ pm_fr [63] V V') := by
  refine pm_MT.of (by decide) ⟨Nat.le_refl _, by decide⟩ (fun av V h => by rw [h.1]; exact (by decide : pm_words [(3, 0)] ≤ 1)) ?_
  rintro X av V0 hC - hR ⟨rfl, hV0⟩
  change pm_J X 0 [(0, (3, 63))] [] 118 V0
  refine pm_aload_n hC 0 (by decide) dX2_pop_0 rfl ?_
  obtain ⟨y1, e2⟩ : ∃ y, V0 63 7 = y := ⟨_, rfl⟩
  have b3 := hV0.get 63 7 (lo := 0) (hi := 64) (by decide) (by decide) rfl
  rw [e2] at b3
  refine pm_getf (v := y1) hC 63 fl_X2_35 rfl rfl (by decide) rfl e2 dX2_pop_1 ?_
  refine pm_if_gt (tgt := 9) hC ⟨by omega, by omega⟩ dX2_pop_4 (by decide) (fun c4 => ?_) (fun c4 => ?_)
  · skip
    refine pm_aload_n hC 0 (by decide) dX2_pop_9 rfl ?_
    refine pm_dup hC rfl dX2_pop_10 ?_
    refine pm_getf (v := y1) hC 63 fl_X2_35 rfl rfl (by decide) rfl e2 dX2_pop_11 ?_
    refine pm_iconst (v := 1) hC dX2_pop_14 ?_
    refine pm_isub hC dX2_pop_15 ?_
    refine pm_putf hC 63 fl_X2_35 rfl rfl rfl (by decide) rfl trivial dX2_pop_16 ?_
    refine pm_aload_n hC 0 (by decide) dX2_pop_19 rfl ?_
    have e5 : V0 63 6 = 68 := hV0.one 63 6 (by decide) (by decide) rfl
    refine pm_getf (v := 68) hC 63 fl_X2_31 rfl rfl (by decide) rfl e5 dX2_pop_20 ?_
    refine pm_aload_n hC 0 (by decide) dX2_pop_23 rfl ?_
    refine pm_getf (v := (y1 - 1)) hC 63 fl_X2_35 rfl rfl (by decide) rfl rfl dX2_pop_24 ?_
    obtain ⟨y6, e7⟩ : ∃ y, V0 68 ((y1 - 1) : Int).toNat = y := ⟨_, rfl⟩
    have b8 := hV0.get 68 ((y1 - 1) : Int).toNat (lo := (-9223372036854775808)) (hi := 9223372036854775807) (by decide) (show _ < 64 by omega) rfl
    rw [e7] at b8
    refine pm_laload (len := 64) (v := y6) hC 68 rfl rfl (by decide) ⟨by omega, by omega⟩ (by decide) e7 dX2_pop_27 ?_
    exact pm_lret hC hR ⟨y6, rfl, ⟨by omega, by omega⟩, (hV0.put 63 7 (x := (y1 - 1)) (lo := 0) (hi := 64) rfl ⟨by omega, by omega⟩), ((pm_fr.rf (ws := [63]) (V := V0)).up 63 7 (y1 - 1) rfl)⟩ dX2_pop_28
  · skip
    refine pm_lconst (x := 0) hC dX2_pop_7 rfl ?_
    exact pm_lret hC hR ⟨0, rfl, ⟨by omega, by omega⟩, hV0, (pm_fr.rf (ws := [63]) (V := V0))⟩ dX2_pop_8
set_option maxHeartbeats 4000000 in
set_option maxRecDepth 100000 in
theorem c_X2_push_63 (a1 : Int) (h0 : (-9223372036854775808) ≤ a1 ∧ a1 ≤ 9223372036854775807) : pm_K 1 yX2_push cX2_push 3 none (fun av V => av = [(3, 63), (1, a1)] ∧ pm_ok 0 90 V) (fun _ V r V' => r = none ∧ pm_ok 0 90 V' ∧ pm_fr [63, 68] V V') := by
  refine pm_MT.of (by decide) ⟨Nat.le_refl _, by decide⟩ (fun av V h => by rw [h.1]; exact (by decide : pm_words [(3, 0), (1, 0)] ≤ 3)) ?_
  rintro X av V0 hC - hR ⟨rfl, hV0⟩
  change pm_J X 0 [(0, (3, 63)), (1, (1, a1))] [] 118 V0
  refine pm_aload_n hC 0 (by decide) dX2_push_0 rfl ?_
  obtain ⟨y1, e2⟩ : ∃ y, V0 63 7 = y := ⟨_, rfl⟩
  have b3 := hV0.get 63 7 (lo := 0) (hi := 64) (by decide) (by decide) rfl
  rw [e2] at b3
  refine pm_getf (v := y1) hC 63 fl_X2_35 rfl rfl (by decide) rfl e2 dX2_push_1 ?_
  refine pm_bipush (v := 64) hC dX2_push_4 (by decide) ?_
  refine pm_icmp_ge (tgt := 29) hC ⟨by omega, by omega⟩ ⟨by decide, by decide⟩ dX2_push_6 (by decide) (fun c4 => ?_) (fun c4 => ?_)
  · skip
    exact pm_vret hC hR ⟨rfl, hV0, (pm_fr.rf (ws := [63, 68]) (V := V0))⟩ dX2_push_29
  · skip
    refine pm_aload_n hC 0 (by decide) dX2_push_9 rfl ?_
    have e5 : V0 63 6 = 68 := hV0.one 63 6 (by decide) (by decide) rfl
    refine pm_getf (v := 68) hC 63 fl_X2_31 rfl rfl (by decide) rfl e5 dX2_push_10 ?_
    refine pm_aload_n hC 0 (by decide) dX2_push_13 rfl ?_
    refine pm_getf (v := y1) hC 63 fl_X2_35 rfl rfl (by decide) rfl e2 dX2_push_14 ?_
    refine pm_lload_n hC 1 dX2_push_17 rfl ?_
    refine pm_lastore (len := 64) hC 68 rfl rfl (by decide) ⟨by omega, by omega⟩ (by decide) dX2_push_18 ?_
    refine pm_aload_n hC 0 (by decide) dX2_push_19 rfl ?_
    refine pm_dup hC rfl dX2_push_20 ?_
    refine pm_getf (v := y1) hC 63 fl_X2_35 rfl rfl (by decide) rfl e2 dX2_push_21 ?_
    refine pm_iconst (v := 1) hC dX2_push_24 ?_
    refine pm_iadd hC dX2_push_25 ?_
    refine pm_putf hC 63 fl_X2_35 rfl rfl rfl (by decide) rfl trivial dX2_push_26 ?_
    exact pm_vret hC hR ⟨rfl, ((hV0.put 68 (y1 : Int).toNat (x := a1) (lo := (-9223372036854775808)) (hi := 9223372036854775807) rfl ⟨by omega, by omega⟩).put 63 7 (x := (y1 + 1)) (lo := 0) (hi := 64) rfl ⟨by omega, by omega⟩), (((pm_fr.rf (ws := [63, 68]) (V := V0)).up 68 (y1 : Int).toNat a1 rfl).up 63 7 (y1 + 1) rfl)⟩ dX2_push_29
set_option maxHeartbeats 4000000 in
set_option maxRecDepth 100000 in
theorem c_X2_applies_63 (a1 : Int) (h0 : (-2147483648) ≤ a1 ∧ a1 ≤ 2147483647) : pm_K 2 yX2_applies cX2_applies 6 (some .boolean) (fun av V => av = [(3, 63), (0, a1)] ∧ pm_ok 0 90 V) (fun _ V r V' => ∃ y, r = some (0, y) ∧ (0 ≤ y ∧ y ≤ 1) ∧ pm_ok 0 90 V' ∧ pm_fr [63, 68] V V') := by
  refine pm_MT.of (by decide) ⟨Nat.le_refl _, by decide⟩ (fun av V h => by rw [h.1]; exact (by decide : pm_words [(3, 0), (0, 0)] ≤ 6)) ?_
  rintro X av V0 hC - hR ⟨rfl, hV0⟩
  change pm_J X 0 [(0, (3, 63)), (1, (0, a1))] [] 118 V0
  refine pm_aload_n hC 0 (by decide) dX2_applies_0 rfl ?_
  refine pm_callV (ci := 2) (as := []) (st := []) hC 63 c_X2_pop_63 lm_X2_46 li_X2_pop (by decide) (by decide) rfl rfl rfl (by decide) rfl rfl (Nat.le_of_ble_eq_true rfl) ⟨Nat.le_refl _, Or.inl rfl⟩ dX2_applies_1 ⟨rfl, hV0⟩ (fun r1 V2 hp3 => ?_)
  obtain ⟨y4, rfl, b5, hV6, hF7⟩ := hp3
  change pm_J X 4 [(0, (3, 63)), (1, (0, a1))] [(1, y4)] 118 V2
  have hF8 := pm_fr.tr (pm_fr.rf (ws := [63, 68]) (V := V0)) hF7 (by decide)
  refine pm_lstore_n (lv' := [(2, (1, y4)), (0, (3, 63)), (1, (0, a1))]) hC dX2_applies_4 (by decide) rfl ?_
  refine pm_aload_n hC 1 (by decide) dX2_applies_5 rfl ?_
  refine pm_callV (ci := 2) (as := []) (st := []) hC 63 c_X2_pop_63 lm_X2_46 li_X2_pop (by decide) (by decide) rfl rfl rfl (by decide) rfl rfl (Nat.le_of_ble_eq_true rfl) ⟨Nat.le_refl _, Or.inl rfl⟩ dX2_applies_6 ⟨rfl, hV6⟩ (fun r9 V10 hp11 => ?_)
  obtain ⟨y12, rfl, b13, hV14, hF15⟩ := hp11
  change pm_J X 9 [(2, (1, y4)), (0, (3, 63)), (1, (0, a1))] [(1, y12)] 118 V10
  have hF16 := pm_fr.tr hF8 hF15 (by decide)
  refine pm_lstore (lv' := [(4, (1, y12)), (2, (1, y4)), (0, (3, 63)), (1, (0, a1))]) hC dX2_applies_9 (by decide) rfl ?_
  refine pm_iload_n hC 3 dX2_applies_11 rfl ?_
  rcases (show (a1 ≠ 42 ∧ a1 ≠ 43 ∧ a1 ≠ 45 ∧ a1 ≠ 60) ∨ a1 = 42 ∨ a1 = 43 ∨ a1 = 45 ∨ a1 = 60 by omega) with c17 | c17 | c17 | c17 | c17
  · skip
    refine pm_lookup (tgt := 108) (off := 96) hC ⟨by omega, by omega⟩ dX2_applies_12 (by decide) (by simp [Op.lookupswitch.offset, List.find?, (show ¬ 42 = a1 by omega), (show ¬ 43 = a1 by omega), (show ¬ 45 = a1 by omega), (show ¬ 60 = a1 by omega)]) (by decide) ?_
    refine pm_lload hC 0 dX2_applies_108 rfl ?_
    refine pm_lload_n hC 1 dX2_applies_110 rfl ?_
    refine pm_lcmp hC ⟨by omega, by omega⟩ ⟨by omega, by omega⟩ dX2_applies_111 (fun y18 b19 => ?_)
    refine pm_if_ne (tgt := 119) hC ⟨by omega, by omega⟩ dX2_applies_112 (by decide) (fun c20 => ?_) (fun c20 => ?_)
    · skip
      refine pm_iconst (v := 0) hC dX2_applies_119 ?_
      exact pm_iret hC hR (pm_narZ (by omega)) ⟨0, rfl, ⟨by omega, by omega⟩, hV14, hF16⟩ dX2_applies_120
    · skip
      refine pm_iconst (v := 1) hC dX2_applies_115 ?_
      refine pm_goto (tgt := 120) hC dX2_applies_116 (by decide) ?_
      exact pm_iret hC hR (pm_narZ (by omega)) ⟨1, rfl, ⟨by omega, by omega⟩, hV14, hF16⟩ dX2_applies_120
  · skip
    refine pm_lookup (tgt := 82) (off := 70) hC ⟨by omega, by omega⟩ dX2_applies_12 (by decide) (by rw [c17]; rfl) (by decide) ?_
    refine pm_aload_n hC 2 (by decide) dX2_applies_82 rfl ?_
    refine pm_lload hC 0 dX2_applies_83 rfl ?_
    refine pm_lload_n hC 1 dX2_applies_85 rfl ?_
    refine pm_lmul hC dX2_applies_86 ?_
    refine pm_someL hC (fun y21 b22 => ?_)
    have b22 := And.intro b22.1 b22.2
    refine pm_callS (as := [(1, y21)]) (st := [(3, 63)]) hC (c_X2_bounded y21 ⟨by omega, by omega⟩) lm_X2_50 ls_X2_bounded (by decide) (by decide) rfl rfl (Nat.le_of_ble_eq_true rfl) ⟨Nat.le_refl _, Or.inl rfl⟩ dX2_applies_87 ⟨rfl, hV14⟩ (fun r23 V24 hp25 => ?_)
    obtain ⟨y26, rfl, b27, rfl⟩ := hp25
    change pm_J X 90 [(4, (1, y12)), (2, (1, y4)), (0, (3, 63)), (1, (0, a1))] [(1, y26), (3, 63)] 118 V10
    refine pm_callV (ci := 2) (as := [(1, y26)]) (st := []) hC 63 (c_X2_push_63 y26 ⟨by omega, by omega⟩) lm_X2_38 li_X2_push (by decide) (by decide) rfl rfl rfl (by decide) rfl rfl (Nat.le_of_ble_eq_true rfl) ⟨Nat.le_refl _, Or.inl rfl⟩ dX2_applies_90 ⟨rfl, hV14⟩ (fun r28 V29 hp30 => ?_)
    obtain ⟨rfl, hV31, hF32⟩ := hp30
    change pm_J X 93 [(4, (1, y12)), (2, (1, y4)), (0, (3, 63)), (1, (0, a1))] [] 118 V29
    have hF33 := pm_fr.tr hF16 hF32 (by decide)
    refine pm_iconst (v := 1) hC dX2_applies_93 ?_
    exact pm_iret hC hR (pm_narZ (by omega)) ⟨1, rfl, ⟨by omega, by omega⟩, hV31, hF33⟩ dX2_applies_94
  · skip
    refine pm_lookup (tgt := 56) (off := 44) hC ⟨by omega, by omega⟩ dX2_applies_12 (by decide) (by rw [c17]; rfl) (by decide) ?_
    refine pm_aload_n hC 2 (by decide) dX2_applies_56 rfl ?_
    refine pm_lload hC 0 dX2_applies_57 rfl ?_
    refine pm_lload_n hC 1 dX2_applies_59 rfl ?_
    refine pm_ladd hC dX2_applies_60 ?_
    refine pm_someL hC (fun y34 b35 => ?_)
    have b35 := And.intro b35.1 b35.2
    refine pm_callS (as := [(1, y34)]) (st := [(3, 63)]) hC (c_X2_bounded y34 ⟨by omega, by omega⟩) lm_X2_50 ls_X2_bounded (by decide) (by decide) rfl rfl (Nat.le_of_ble_eq_true rfl) ⟨Nat.le_refl _, Or.inl rfl⟩ dX2_applies_61 ⟨rfl, hV14⟩ (fun r36 V37 hp38 => ?_)
    obtain ⟨y39, rfl, b40, rfl⟩ := hp38
    change pm_J X 64 [(4, (1, y12)), (2, (1, y4)), (0, (3, 63)), (1, (0, a1))] [(1, y39), (3, 63)] 118 V10
    refine pm_callV (ci := 2) (as := [(1, y39)]) (st := []) hC 63 (c_X2_push_63 y39 ⟨by omega, by omega⟩) lm_X2_38 li_X2_push (by decide) (by decide) rfl rfl rfl (by decide) rfl rfl (Nat.le_of_ble_eq_true rfl) ⟨Nat.le_refl _, Or.inl rfl⟩ dX2_applies_64 ⟨rfl, hV14⟩ (fun r41 V42 hp43 => ?_)
    obtain ⟨rfl, hV44, hF45⟩ := hp43
    change pm_J X 67 [(4, (1, y12)), (2, (1, y4)), (0, (3, 63)), (1, (0, a1))] [] 118 V42
    have hF46 := pm_fr.tr hF16 hF45 (by decide)
    refine pm_iconst (v := 1) hC dX2_applies_67 ?_
    exact pm_iret hC hR (pm_narZ (by omega)) ⟨1, rfl, ⟨by omega, by omega⟩, hV44, hF46⟩ dX2_applies_68
  · skip
    refine pm_lookup (tgt := 69) (off := 57) hC ⟨by omega, by omega⟩ dX2_applies_12 (by decide) (by rw [c17]; rfl) (by decide) ?_
    refine pm_aload_n hC 2 (by decide) dX2_applies_69 rfl ?_
    refine pm_lload hC 0 dX2_applies_70 rfl ?_
    refine pm_lload_n hC 1 dX2_applies_72 rfl ?_
    refine pm_lsub hC dX2_applies_73 ?_
    refine pm_someL hC (fun y47 b48 => ?_)
    have b48 := And.intro b48.1 b48.2
    refine pm_callS (as := [(1, y47)]) (st := [(3, 63)]) hC (c_X2_bounded y47 ⟨by omega, by omega⟩) lm_X2_50 ls_X2_bounded (by decide) (by decide) rfl rfl (Nat.le_of_ble_eq_true rfl) ⟨Nat.le_refl _, Or.inl rfl⟩ dX2_applies_74 ⟨rfl, hV14⟩ (fun r49 V50 hp51 => ?_)
    obtain ⟨y52, rfl, b53, rfl⟩ := hp51
    change pm_J X 77 [(4, (1, y12)), (2, (1, y4)), (0, (3, 63)), (1, (0, a1))] [(1, y52), (3, 63)] 118 V10
    refine pm_callV (ci := 2) (as := [(1, y52)]) (st := []) hC 63 (c_X2_push_63 y52 ⟨by omega, by omega⟩) lm_X2_38 li_X2_push (by decide) (by decide) rfl rfl rfl (by decide) rfl rfl (Nat.le_of_ble_eq_true rfl) ⟨Nat.le_refl _, Or.inl rfl⟩ dX2_applies_77 ⟨rfl, hV14⟩ (fun r54 V55 hp56 => ?_)
    obtain ⟨rfl, hV57, hF58⟩ := hp56
    change pm_J X 80 [(4, (1, y12)), (2, (1, y4)), (0, (3, 63)), (1, (0, a1))] [] 118 V55
    have hF59 := pm_fr.tr hF16 hF58 (by decide)
    refine pm_iconst (v := 1) hC dX2_applies_80 ?_
    exact pm_iret hC hR (pm_narZ (by omega)) ⟨1, rfl, ⟨by omega, by omega⟩, hV57, hF59⟩ dX2_applies_81
  · skip
    refine pm_lookup (tgt := 95) (off := 83) hC ⟨by omega, by omega⟩ dX2_applies_12 (by decide) (by rw [c17]; rfl) (by decide) ?_
    refine pm_lload hC 0 dX2_applies_95 rfl ?_
    refine pm_lload_n hC 1 dX2_applies_97 rfl ?_
    refine pm_lcmp hC ⟨by omega, by omega⟩ ⟨by omega, by omega⟩ dX2_applies_98 (fun y60 b61 => ?_)
    refine pm_if_ge (tgt := 106) hC ⟨by omega, by omega⟩ dX2_applies_99 (by decide) (fun c62 => ?_) (fun c62 => ?_)
    · skip
      refine pm_iconst (v := 0) hC dX2_applies_106 ?_
      exact pm_iret hC hR (pm_narZ (by omega)) ⟨0, rfl, ⟨by omega, by omega⟩, hV14, hF16⟩ dX2_applies_107
    · skip
      refine pm_iconst (v := 1) hC dX2_applies_102 ?_
      refine pm_goto (tgt := 107) hC dX2_applies_103 (by decide) ?_
      exact pm_iret hC hR (pm_narZ (by omega)) ⟨1, rfl, ⟨by omega, by omega⟩, hV14, hF16⟩ dX2_applies_107
set_option maxHeartbeats 4000000 in
set_option maxRecDepth 100000 in
theorem c_X2_holds_63_83 (a1 : Int) (h0 : 0 ≤ a1 ∧ a1 ≤ 9) : pm_K 3 yX2_holds cX2_holds 6 (some .boolean) (fun av V => av = [(3, 63), (0, a1), (3, 83)] ∧ pm_ok 0 90 V) (fun _ V r V' => ∃ y, r = some (0, y) ∧ (0 ≤ y ∧ y ≤ 1) ∧ pm_ok 0 90 V' ∧ pm_fr [63, 68] V V') := by
  refine pm_MT.of (by decide) ⟨Nat.le_refl _, by decide⟩ (fun av V h => by rw [h.1]; exact (by decide : pm_words [(3, 0), (0, 0), (3, 0)] ≤ 6)) ?_
  rintro X av V0 hC - hR ⟨rfl, hV0⟩
  change pm_J X 0 [(0, (3, 63)), (1, (0, a1)), (2, (3, 83))] [] 118 V0
  refine pm_aload_n hC 0 (by decide) dX2_holds_0 rfl ?_
  refine pm_iconst (v := 0) hC dX2_holds_1 ?_
  refine pm_putf hC 63 fl_X2_35 rfl rfl rfl (by decide) rfl trivial dX2_holds_2 ?_
  refine pm_aload_n hC 0 (by decide) dX2_holds_5 rfl ?_
  have e1 : V0 63 2 = 65 := hV0.one 63 2 (by decide) (by decide) rfl
  refine pm_getf (v := 65) hC 63 fl_X2_19 rfl rfl (by decide) rfl e1 dX2_holds_6 ?_
  refine pm_iload_n hC 1 dX2_holds_9 rfl ?_
  obtain ⟨y2, e3⟩ : ∃ y, V0 65 (a1 : Int).toNat = y := ⟨_, rfl⟩
  have b4 := hV0.get 65 (a1 : Int).toNat (lo := 0) (hi := 500) (by decide) (show _ < 10 by omega) rfl
  rw [e3] at b4
  refine pm_iaload (len := 10) (v := y2) hC 65 rfl rfl (by decide) ⟨by omega, by omega⟩ (by decide) e3 dX2_holds_10 ?_
  refine pm_istore_n (lv' := [(3, (0, y2)), (0, (3, 63)), (1, (0, a1)), (2, (3, 83))]) hC dX2_holds_11 (by decide) rfl ?_
  have hV7 := (hV0.put 63 7 (x := 0) (lo := 0) (hi := 64) rfl ⟨by decide, by decide⟩)
  have hF8 := ((pm_fr.rf (ws := [63, 68]) (V := V0)).up 63 7 0 rfl)
  obtain ⟨V5, hv6⟩ : ∃ V, V = (pm_up V0 63 7 0) := ⟨_, rfl⟩
  rw [← hv6] at hV7 hF8
  rw [← hv6]
  have e9 : V5 63 2 = 65 := by rw [hv6]; exact e1
  have e10 : V5 63 7 = 0 := by rw [hv6]; rfl
  have L16 : ∀ (N18 : Nat) (x11 : Int) (V13 : pm_M), (0 ≤ x11 ∧ x11 ≤ 500) → pm_ok 0 90 V13 → pm_fr [63, 68] V0 V13 → (Int.toNat (500 - x11)) = N18 → pm_J X 12 [(0, (3, 63)), (1, (0, a1)), (2, (3, 83)), (3, (0, x11))] [] 118 V13 := by
    intro N18
    induction N18 using Nat.strongRecOn with
    | _ N18 ih19 =>
    intro x11 V13 b12 hV14 hF15 hm17
    refine pm_iload_n hC 3 dX2_holds_12 rfl ?_
    refine pm_aload_n hC 0 (by decide) dX2_holds_13 rfl ?_
    have e20 : V13 63 3 = 66 := hV14.one 63 3 (by decide) (by decide) rfl
    refine pm_getf (v := 66) hC 63 fl_X2_22 rfl rfl (by decide) rfl e20 dX2_holds_14 ?_
    refine pm_iload_n hC 1 dX2_holds_17 rfl ?_
    obtain ⟨y21, e22⟩ : ∃ y, V13 66 (a1 : Int).toNat = y := ⟨_, rfl⟩
    have b23 := hV14.get 66 (a1 : Int).toNat (lo := 0) (hi := 500) (by decide) (show _ < 10 by omega) rfl
    rw [e22] at b23
    refine pm_iaload (len := 10) (v := y21) hC 66 rfl rfl (by decide) ⟨by omega, by omega⟩ (by decide) e22 dX2_holds_18 ?_
    refine pm_icmp_ge (tgt := 107) hC ⟨by omega, by omega⟩ ⟨by omega, by omega⟩ dX2_holds_19 (by decide) (fun c24 => ?_) (fun c24 => ?_)
    · skip
      refine pm_iconst (v := 1) hC dX2_holds_107 ?_
      exact pm_iret hC hR (pm_narZ (by omega)) ⟨1, rfl, ⟨by omega, by omega⟩, hV14, hF15⟩ dX2_holds_108
    · skip
      refine pm_aload_n hC 0 (by decide) dX2_holds_22 rfl ?_
      have e25 : V13 63 4 = 67 := hV14.one 63 4 (by decide) (by decide) rfl
      refine pm_getf (v := 67) hC 63 fl_X2_25 rfl rfl (by decide) rfl e25 dX2_holds_23 ?_
      refine pm_iload_n hC 3 dX2_holds_26 rfl ?_
      obtain ⟨y26, e27⟩ : ∃ y, V13 67 (x11 : Int).toNat = y := ⟨_, rfl⟩
      have b28 := hV14.get 67 (x11 : Int).toNat (lo := 0) (hi := 30000) (by decide) (show _ < 500 by omega) rfl
      rw [e27] at b28
      refine pm_iaload (len := 500) (v := y26) hC 67 rfl rfl (by decide) ⟨by omega, by omega⟩ (by decide) e27 dX2_holds_27 ?_
      refine pm_istore (lv' := [(4, (0, y26)), (0, (3, 63)), (1, (0, a1)), (2, (3, 83)), (3, (0, x11))]) hC dX2_holds_28 (by decide) rfl ?_
      refine pm_iload hC 0 dX2_holds_30 rfl ?_
      refine pm_sipush (v := 10000) hC dX2_holds_32 (by decide) ?_
      refine pm_icmp_ge (tgt := 48) hC ⟨by omega, by omega⟩ ⟨by decide, by decide⟩ dX2_holds_35 (by decide) (fun c29 => ?_) (fun c29 => ?_)
      · skip
        refine pm_iload hC 0 dX2_holds_48 rfl ?_
        refine pm_sipush (v := 20000) hC dX2_holds_50 (by decide) ?_
        refine pm_icmp_ge (tgt := 86) hC ⟨by omega, by omega⟩ ⟨by decide, by decide⟩ dX2_holds_53 (by decide) (fun c30 => ?_) (fun c30 => ?_)
        · skip
          refine pm_aload_n hC 1 (by decide) dX2_holds_86 rfl ?_
          refine pm_iload hC 0 dX2_holds_87 rfl ?_
          refine pm_sipush (v := 20000) hC dX2_holds_89 (by decide) ?_
          refine pm_isub hC dX2_holds_92 ?_
          refine pm_callV (ci := 2) (as := [(0, (y26 - 20000))]) (st := []) hC 63 (c_X2_applies_63 (y26 - 20000) ⟨by omega, by omega⟩) lm_X2_42 li_X2_applies (by decide) (by decide) rfl rfl rfl (by decide) rfl rfl (Nat.le_of_ble_eq_true rfl) ⟨Nat.le_refl _, Or.inl rfl⟩ dX2_holds_93 ⟨rfl, hV14⟩ (fun r31 V32 hp33 => ?_)
          obtain ⟨y34, rfl, b35, hV36, hF37⟩ := hp33
          change pm_J X 96 [(4, (0, y26)), (0, (3, 63)), (1, (0, a1)), (2, (3, 83)), (3, (0, x11))] [(0, y34)] 118 V32
          have hF38 := pm_fr.tr hF15 hF37 (by decide)
          refine pm_if_ne (tgt := 101) hC ⟨by omega, by omega⟩ dX2_holds_96 (by decide) (fun c39 => ?_) (fun c39 => ?_)
          · skip
            obtain ⟨x40, ei41⟩ : ∃ y : Int, x11 + 1 = y := ⟨_, rfl⟩
            refine pm_iinc (y := x40) (lv' := [(3, (0, x40)), (4, (0, y26)), (0, (3, 63)), (1, (0, a1)), (2, (3, 83))]) hC 4 dX2_holds_101 (by decide) rfl ei41 rfl ?_
            refine pm_goto (tgt := 12) hC dX2_holds_104 (by decide) ?_
            refine pm_lvsub [2, 3, 4, 0] (lv' := [(0, (3, 63)), (1, (0, a1)), (2, (3, 83)), (3, (0, x40))]) rfl ?_
            exact ih19 _ (by omega) x40 V32 ⟨by omega, by omega⟩ hV36 hF38 rfl
          · skip
            refine pm_iconst (v := 0) hC dX2_holds_99 ?_
            exact pm_iret hC hR (pm_narZ (by omega)) ⟨0, rfl, ⟨by omega, by omega⟩, hV36, hF38⟩ dX2_holds_100
        · skip
          refine pm_iload hC 0 dX2_holds_56 rfl ?_
          refine pm_sipush (v := 10000) hC dX2_holds_58 (by decide) ?_
          refine pm_isub hC dX2_holds_61 ?_
          refine pm_istore (lv' := [(5, (0, (y26 - 10000))), (4, (0, y26)), (0, (3, 63)), (1, (0, a1)), (2, (3, 83)), (3, (0, x11))]) hC dX2_holds_62 (by decide) rfl ?_
          refine pm_aload_n hC 2 (by decide) dX2_holds_64 rfl ?_
          refine pm_iload hC 0 dX2_holds_65 rfl ?_
          refine pm_aload_n hC 4 (by decide) dX2_holds_67 rfl ?_
          refine pm_alen hC 83 rfl (by decide) rfl (by decide) dX2_holds_68 ?_
          change pm_J X 69 [(5, (0, (y26 - 10000))), (4, (0, y26)), (0, (3, 63)), (1, (0, a1)), (2, (3, 83)), (3, (0, x11))] [(0, 7), (0, (y26 - 10000)), (3, 63)] 118 V13
          refine pm_icmp_ge (tgt := 79) hC ⟨by omega, by omega⟩ ⟨by decide, by decide⟩ dX2_holds_69 (by decide) (fun c42 => ?_) (fun c42 => ?_)
          · skip
            refine pm_lconst (x := 0) hC dX2_holds_79 rfl ?_
            refine pm_callV (ci := 2) (as := [(1, 0)]) (st := []) hC 63 (c_X2_push_63 0 ⟨by decide, by decide⟩) lm_X2_38 li_X2_push (by decide) (by decide) rfl rfl rfl (by decide) rfl rfl (Nat.le_of_ble_eq_true rfl) ⟨Nat.le_refl _, Or.inl rfl⟩ dX2_holds_80 ⟨rfl, hV14⟩ (fun r43 V44 hp45 => ?_)
            obtain ⟨rfl, hV46, hF47⟩ := hp45
            change pm_J X 83 [(5, (0, (y26 - 10000))), (4, (0, y26)), (0, (3, 63)), (1, (0, a1)), (2, (3, 83)), (3, (0, x11))] [] 118 V44
            have hF48 := pm_fr.tr hF15 hF47 (by decide)
            refine pm_goto (tgt := 101) hC dX2_holds_83 (by decide) ?_
            obtain ⟨x49, ei50⟩ : ∃ y : Int, x11 + 1 = y := ⟨_, rfl⟩
            refine pm_iinc (y := x49) (lv' := [(3, (0, x49)), (5, (0, (y26 - 10000))), (4, (0, y26)), (0, (3, 63)), (1, (0, a1)), (2, (3, 83))]) hC 5 dX2_holds_101 (by decide) rfl ei50 rfl ?_
            refine pm_goto (tgt := 12) hC dX2_holds_104 (by decide) ?_
            refine pm_lvsub [3, 4, 5, 0] (lv' := [(0, (3, 63)), (1, (0, a1)), (2, (3, 83)), (3, (0, x49))]) rfl ?_
            exact ih19 _ (by omega) x49 V44 ⟨by omega, by omega⟩ hV46 hF48 rfl
          · skip
            refine pm_aload_n hC 4 (by decide) dX2_holds_72 rfl ?_
            refine pm_iload hC 0 dX2_holds_73 rfl ?_
            obtain ⟨y51, e52⟩ : ∃ y, V13 83 ((y26 - 10000) : Int).toNat = y := ⟨_, rfl⟩
            have b53 := hV14.get 83 ((y26 - 10000) : Int).toNat (lo := (-9223372036854775808)) (hi := 9223372036854775807) (by decide) (show _ < 7 by omega) rfl
            rw [e52] at b53
            refine pm_laload (len := 7) (v := y51) hC 83 rfl rfl (by decide) ⟨by omega, by omega⟩ (by decide) e52 dX2_holds_75 ?_
            refine pm_goto (tgt := 80) hC dX2_holds_76 (by decide) ?_
            refine pm_callV (ci := 2) (as := [(1, y51)]) (st := []) hC 63 (c_X2_push_63 y51 ⟨by omega, by omega⟩) lm_X2_38 li_X2_push (by decide) (by decide) rfl rfl rfl (by decide) rfl rfl (Nat.le_of_ble_eq_true rfl) ⟨Nat.le_refl _, Or.inl rfl⟩ dX2_holds_80 ⟨rfl, hV14⟩ (fun r54 V55 hp56 => ?_)
            obtain ⟨rfl, hV57, hF58⟩ := hp56
            change pm_J X 83 [(5, (0, (y26 - 10000))), (4, (0, y26)), (0, (3, 63)), (1, (0, a1)), (2, (3, 83)), (3, (0, x11))] [] 118 V55
            have hF59 := pm_fr.tr hF15 hF58 (by decide)
            refine pm_goto (tgt := 101) hC dX2_holds_83 (by decide) ?_
            obtain ⟨x60, ei61⟩ : ∃ y : Int, x11 + 1 = y := ⟨_, rfl⟩
            refine pm_iinc (y := x60) (lv' := [(3, (0, x60)), (5, (0, (y26 - 10000))), (4, (0, y26)), (0, (3, 63)), (1, (0, a1)), (2, (3, 83))]) hC 5 dX2_holds_101 (by decide) rfl ei61 rfl ?_
            refine pm_goto (tgt := 12) hC dX2_holds_104 (by decide) ?_
            refine pm_lvsub [3, 4, 5, 0] (lv' := [(0, (3, 63)), (1, (0, a1)), (2, (3, 83)), (3, (0, x60))]) rfl ?_
            exact ih19 _ (by omega) x60 V55 ⟨by omega, by omega⟩ hV57 hF59 rfl
      · skip
        refine pm_aload_n hC 1 (by decide) dX2_holds_38 rfl ?_
        refine pm_iload hC 0 dX2_holds_39 rfl ?_
        refine pm_i2l hC ⟨by omega, by omega⟩ dX2_holds_41 ?_
        refine pm_callV (ci := 2) (as := [(1, y26)]) (st := []) hC 63 (c_X2_push_63 y26 ⟨by omega, by omega⟩) lm_X2_38 li_X2_push (by decide) (by decide) rfl rfl rfl (by decide) rfl rfl (Nat.le_of_ble_eq_true rfl) ⟨Nat.le_refl _, Or.inl rfl⟩ dX2_holds_42 ⟨rfl, hV14⟩ (fun r62 V63 hp64 => ?_)
        obtain ⟨rfl, hV65, hF66⟩ := hp64
        change pm_J X 45 [(4, (0, y26)), (0, (3, 63)), (1, (0, a1)), (2, (3, 83)), (3, (0, x11))] [] 118 V63
        have hF67 := pm_fr.tr hF15 hF66 (by decide)
        refine pm_goto (tgt := 101) hC dX2_holds_45 (by decide) ?_
        obtain ⟨x68, ei69⟩ : ∃ y : Int, x11 + 1 = y := ⟨_, rfl⟩
        refine pm_iinc (y := x68) (lv' := [(3, (0, x68)), (4, (0, y26)), (0, (3, 63)), (1, (0, a1)), (2, (3, 83))]) hC 4 dX2_holds_101 (by decide) rfl ei69 rfl ?_
        refine pm_goto (tgt := 12) hC dX2_holds_104 (by decide) ?_
        refine pm_lvsub [2, 3, 4, 0] (lv' := [(0, (3, 63)), (1, (0, a1)), (2, (3, 83)), (3, (0, x68))]) rfl ?_
        exact ih19 _ (by omega) x68 V63 ⟨by omega, by omega⟩ hV65 hF67 rfl
  refine pm_lvsub [1, 2, 3, 0] (lv' := [(0, (3, 63)), (1, (0, a1)), (2, (3, 83)), (3, (0, y2))]) rfl ?_
  exact L16 _ y2 V5 ⟨by omega, by omega⟩ hV7 hF8 rfl
set_option maxHeartbeats 4000000 in
set_option maxRecDepth 100000 in
theorem c_X11_called_0 (a1 a2 a3 a4 : Int) (h0 : (-2147483648) ≤ a1 ∧ a1 ≤ 2147483647) (h1 : (-2147483648) ≤ a2 ∧ a2 ≤ 2147483647) (h2 : (-2147483648) ≤ a3 ∧ a3 ≤ 2147483647) (h3 : (-2147483648) ≤ a4 ∧ a4 ≤ 2147483647) : pm_K 6 yX11_called cX11_called 6 (some .int) (fun av V => av = [(3, 0), (0, a1), (0, a2), (0, a3), (0, a4)] ∧ pm_ok 0 90 V) (fun _ V r V' => ∃ y, r = some (0, y) ∧ ((-1) ≤ y ∧ y ≤ 9) ∧ pm_ok 0 90 V' ∧ pm_fr [57, 62, 63, 68, 73, 74, 75, 76, 77, 83] V V') := by
  refine pm_MT.of (by decide) ⟨Nat.le_refl _, by decide⟩ (fun av V h => by rw [h.1]; exact (by decide : pm_words [(3, 0), (0, 0), (0, 0), (0, 0), (0, 0)] ≤ 6)) ?_
  rintro X av V0 hC - hR ⟨rfl, hV0⟩
  change pm_J X 0 [(0, (3, 0)), (1, (0, a1)), (2, (0, a2)), (3, (0, a3)), (4, (0, a4))] [] 118 V0
  refine pm_iload hC 4 dX11_called_0 rfl ?_
  refine pm_if_eq (tgt := 11) hC ⟨by omega, by omega⟩ dX11_called_2 (by decide) (fun c1 => ?_) (fun c1 => ?_)
  · skip
    refine pm_aload_n hC 0 (by decide) dX11_called_11 rfl ?_
    refine pm_iload_n hC 1 dX11_called_12 rfl ?_
    refine pm_iload_n hC 2 dX11_called_13 rfl ?_
    refine pm_iload_n hC 3 dX11_called_14 rfl ?_
    refine pm_callV (ci := 11) (as := [(0, a1), (0, a2), (0, a3)]) (st := []) hC 0 (c_X11_isTrial_0 a1 a2 a3 ⟨by omega, by omega⟩ ⟨by omega, by omega⟩ ⟨by omega, by omega⟩) lm_X11_225 li_X11_isTrial (by decide) (by decide) rfl rfl rfl (by decide) rfl rfl (Nat.le_of_ble_eq_true rfl) ⟨Nat.le_refl _, Or.inl rfl⟩ dX11_called_15 ⟨rfl, hV0⟩ (fun r2 V3 hp4 => ?_)
    obtain ⟨y5, rfl, b6, rfl⟩ := hp4
    change pm_J X 18 [(0, (3, 0)), (1, (0, a1)), (2, (0, a2)), (3, (0, a3)), (4, (0, a4))] [(0, y5)] 118 V0
    refine pm_if_ne (tgt := 23) hC ⟨by omega, by omega⟩ dX11_called_18 (by decide) (fun c7 => ?_) (fun c7 => ?_)
    · skip
      refine pm_aload_n hC 0 (by decide) dX11_called_23 rfl ?_
      refine pm_iload_n hC 1 dX11_called_24 rfl ?_
      refine pm_iload_n hC 2 dX11_called_25 rfl ?_
      refine pm_iload_n hC 3 dX11_called_26 rfl ?_
      refine pm_callV (ci := 11) (as := [(0, a1), (0, a2), (0, a3)]) (st := []) hC 0 (c_X11_pose_0 a1 a2 a3 ⟨by omega, by omega⟩ ⟨by omega, by omega⟩ ⟨by omega, by omega⟩ (by omega)) lm_X11_229 li_X11_pose (by decide) (by decide) rfl rfl rfl (by decide) rfl rfl (Nat.le_of_ble_eq_true rfl) ⟨Nat.le_refl _, Or.inl rfl⟩ dX11_called_27 ⟨rfl, hV0⟩ (fun r8 V9 hp10 => ?_)
      obtain ⟨rfl, hV11, hF12⟩ := hp10
      change pm_J X 30 [(0, (3, 0)), (1, (0, a1)), (2, (0, a2)), (3, (0, a3)), (4, (0, a4))] [] 118 V9
      have hF13 := pm_fr.tr (pm_fr.rf (ws := [57, 62, 63, 68, 73, 74, 75, 76, 77, 83]) (V := V0)) hF12 (by decide)
      refine pm_aload_n hC 0 (by decide) dX11_called_30 rfl ?_
      refine pm_iload_n hC 3 dX11_called_31 rfl ?_
      refine pm_callV (ci := 11) (as := [(0, a3)]) (st := []) hC 0 (c_X11_fillAtoms_0 a3 ⟨by omega, by omega⟩) lm_X11_321 li_X11_fillAtoms (by decide) (by decide) rfl rfl rfl (by decide) rfl rfl (Nat.le_of_ble_eq_true rfl) ⟨Nat.le_refl _, Or.inl rfl⟩ dX11_called_32 ⟨rfl, hV11⟩ (fun r14 V15 hp16 => ?_)
      obtain ⟨rfl, hV17, hF18⟩ := hp16
      change pm_J X 35 [(0, (3, 0)), (1, (0, a1)), (2, (0, a2)), (3, (0, a3)), (4, (0, a4))] [] 118 V15
      have hF19 := pm_fr.tr hF13 hF18 (by decide)
      refine pm_iconst (v := 0) hC dX11_called_35 ?_
      refine pm_istore (lv' := [(5, (0, 0)), (0, (3, 0)), (1, (0, a1)), (2, (0, a2)), (3, (0, a3)), (4, (0, a4))]) hC dX11_called_36 (by decide) rfl ?_
      have L25 : ∀ (N27 : Nat) (x20 : Int) (V22 : pm_M), (0 ≤ x20 ∧ x20 ≤ 16) → pm_ok 0 90 V22 → pm_fr [57, 62, 63, 68, 73, 74, 75, 76, 77, 83] V0 V22 → (Int.toNat (16 - x20)) = N27 → pm_J X 38 [(0, (3, 0)), (1, (0, a1)), (2, (0, a2)), (3, (0, a3)), (4, (0, a4)), (5, (0, x20))] [] 118 V22 := by
        intro N27
        induction N27 using Nat.strongRecOn with
        | _ N27 ih28 =>
        intro x20 V22 b21 hV23 hF24 hm26
        refine pm_iload hC 5 dX11_called_38 rfl ?_
        refine pm_aload_n hC 0 (by decide) dX11_called_40 rfl ?_
        rcases hV23.get2 0 10 (lo := 57) (hi := 63) (by decide) (by decide) rfl with e29 | e29
        · skip
          refine pm_getf (v := 57) hC 0 fl_X11_45 rfl rfl (by decide) rfl e29 dX11_called_41 ?_
          obtain ⟨y30, e31⟩ : ∃ y, V22 57 0 = y := ⟨_, rfl⟩
          have b32 := hV23.get 57 0 (lo := 0) (hi := 10) (by decide) (by decide) rfl
          rw [e31] at b32
          refine pm_getf (v := y30) hC 57 fl_X11_139 rfl rfl (by decide) rfl e31 dX11_called_44 ?_
          refine pm_icmp_ge (tgt := 93) hC ⟨by omega, by omega⟩ ⟨by omega, by omega⟩ dX11_called_47 (by decide) (fun c33 => ?_) (fun c33 => ?_)
          · skip
            refine pm_iconst (v := (-1)) hC dX11_called_93 ?_
            exact pm_iret hC hR pm_nar0 ⟨(-1), rfl, ⟨by omega, by omega⟩, hV23, hF24⟩ dX11_called_94
          · skip
            refine pm_aload_n hC 0 (by decide) dX11_called_50 rfl ?_
            refine pm_getf (v := 57) hC 0 fl_X11_45 rfl rfl (by decide) rfl e29 dX11_called_51 ?_
            refine pm_iload hC 5 dX11_called_54 rfl ?_
            refine pm_aload_n hC 0 (by decide) dX11_called_56 rfl ?_
            have e34 : V22 0 7 = 83 := hV23.one 0 7 (by decide) (by decide) rfl
            refine pm_getf (v := 83) hC 0 fl_X11_86 rfl rfl (by decide) rfl e34 dX11_called_57 ?_
            refine pm_callV (ci := 2) (as := [(0, x20), (3, 83)]) (st := []) hC 57 (c_X2_holds_57_83 x20 ⟨by omega, by omega⟩) lm_X11_324 li_X2_holds (by decide) (by decide) rfl rfl rfl (by decide) rfl rfl (Nat.le_of_ble_eq_true rfl) ⟨Nat.le_refl _, Or.inl rfl⟩ dX11_called_60 ⟨rfl, hV23⟩ (fun r35 V36 hp37 => ?_)
            obtain ⟨y38, rfl, b39, hV40, hF41⟩ := hp37
            change pm_J X 63 [(0, (3, 0)), (1, (0, a1)), (2, (0, a2)), (3, (0, a3)), (4, (0, a4)), (5, (0, x20))] [(0, y38)] 118 V36
            have hF42 := pm_fr.tr hF24 hF41 (by decide)
            have e43 : V36 0 10 = 57 := by rw [hF41 0 (by decide)]; exact e29
            have e44 : V36 0 7 = 83 := by rw [hF41 0 (by decide)]; exact e34
            refine pm_if_eq (tgt := 87) hC ⟨by omega, by omega⟩ dX11_called_63 (by decide) (fun c45 => ?_) (fun c45 => ?_)
            · skip
              obtain ⟨x46, ei47⟩ : ∃ y : Int, x20 + 1 = y := ⟨_, rfl⟩
              refine pm_iinc (y := x46) (lv' := [(5, (0, x46)), (0, (3, 0)), (1, (0, a1)), (2, (0, a2)), (3, (0, a3)), (4, (0, a4))]) hC 5 dX11_called_87 (by decide) rfl ei47 rfl ?_
              refine pm_goto (tgt := 38) hC dX11_called_90 (by decide) ?_
              refine pm_lvsub [1, 2, 3, 4, 5, 0] (lv' := [(0, (3, 0)), (1, (0, a1)), (2, (0, a2)), (3, (0, a3)), (4, (0, a4)), (5, (0, x46))]) rfl ?_
              exact ih28 _ (by omega) x46 V36 ⟨by omega, by omega⟩ hV40 hF42 rfl
            · skip
              refine pm_iload hC 4 dX11_called_66 rfl ?_
              refine pm_if_ne (tgt := 84) hC ⟨by omega, by omega⟩ dX11_called_68 (by decide) (fun c48 => ?_) (fun c48 => ?_)
              · skip
                exfalso; omega
              · skip
                refine pm_aload_n hC 0 (by decide) dX11_called_71 rfl ?_
                refine pm_getf (v := 57) hC 0 fl_X11_45 rfl rfl (by decide) rfl e43 dX11_called_72 ?_
                have e49 : V36 57 1 = 58 := hV40.one 57 1 (by decide) (by decide) rfl
                refine pm_getf (v := 58) hC 57 fl_X11_328 rfl rfl (by decide) rfl e49 dX11_called_75 ?_
                refine pm_iload hC 5 dX11_called_78 rfl ?_
                obtain ⟨y50, e51⟩ : ∃ y, V36 58 (x20 : Int).toNat = y := ⟨_, rfl⟩
                have b52 := hV40.get 58 (x20 : Int).toNat (lo := 0) (hi := 3) (by decide) (show _ < 10 by omega) rfl
                rw [e51] at b52
                refine pm_iaload (len := 10) (v := y50) hC 58 rfl rfl (by decide) ⟨by omega, by omega⟩ (by decide) e51 dX11_called_80 ?_
                refine pm_goto (tgt := 86) hC dX11_called_81 (by decide) ?_
                exact pm_iret hC hR pm_nar0 ⟨y50, rfl, ⟨by omega, by omega⟩, hV40, hF42⟩ dX11_called_86
        · skip
          refine pm_getf (v := 63) hC 0 fl_X11_45 rfl rfl (by decide) rfl e29 dX11_called_41 ?_
          obtain ⟨y53, e54⟩ : ∃ y, V22 63 0 = y := ⟨_, rfl⟩
          have b55 := hV23.get 63 0 (lo := 0) (hi := 10) (by decide) (by decide) rfl
          rw [e54] at b55
          refine pm_getf (v := y53) hC 63 fl_X11_139 rfl rfl (by decide) rfl e54 dX11_called_44 ?_
          refine pm_icmp_ge (tgt := 93) hC ⟨by omega, by omega⟩ ⟨by omega, by omega⟩ dX11_called_47 (by decide) (fun c56 => ?_) (fun c56 => ?_)
          · skip
            refine pm_iconst (v := (-1)) hC dX11_called_93 ?_
            exact pm_iret hC hR pm_nar0 ⟨(-1), rfl, ⟨by omega, by omega⟩, hV23, hF24⟩ dX11_called_94
          · skip
            refine pm_aload_n hC 0 (by decide) dX11_called_50 rfl ?_
            refine pm_getf (v := 63) hC 0 fl_X11_45 rfl rfl (by decide) rfl e29 dX11_called_51 ?_
            refine pm_iload hC 5 dX11_called_54 rfl ?_
            refine pm_aload_n hC 0 (by decide) dX11_called_56 rfl ?_
            have e57 : V22 0 7 = 83 := hV23.one 0 7 (by decide) (by decide) rfl
            refine pm_getf (v := 83) hC 0 fl_X11_86 rfl rfl (by decide) rfl e57 dX11_called_57 ?_
            refine pm_callV (ci := 2) (as := [(0, x20), (3, 83)]) (st := []) hC 63 (c_X2_holds_63_83 x20 ⟨by omega, by omega⟩) lm_X11_324 li_X2_holds (by decide) (by decide) rfl rfl rfl (by decide) rfl rfl (Nat.le_of_ble_eq_true rfl) ⟨Nat.le_refl _, Or.inl rfl⟩ dX11_called_60 ⟨rfl, hV23⟩ (fun r58 V59 hp60 => ?_)
            obtain ⟨y61, rfl, b62, hV63, hF64⟩ := hp60
            change pm_J X 63 [(0, (3, 0)), (1, (0, a1)), (2, (0, a2)), (3, (0, a3)), (4, (0, a4)), (5, (0, x20))] [(0, y61)] 118 V59
            have hF65 := pm_fr.tr hF24 hF64 (by decide)
            have e66 : V59 0 10 = 63 := by rw [hF64 0 (by decide)]; exact e29
            have e67 : V59 0 7 = 83 := by rw [hF64 0 (by decide)]; exact e57
            refine pm_if_eq (tgt := 87) hC ⟨by omega, by omega⟩ dX11_called_63 (by decide) (fun c68 => ?_) (fun c68 => ?_)
            · skip
              obtain ⟨x69, ei70⟩ : ∃ y : Int, x20 + 1 = y := ⟨_, rfl⟩
              refine pm_iinc (y := x69) (lv' := [(5, (0, x69)), (0, (3, 0)), (1, (0, a1)), (2, (0, a2)), (3, (0, a3)), (4, (0, a4))]) hC 5 dX11_called_87 (by decide) rfl ei70 rfl ?_
              refine pm_goto (tgt := 38) hC dX11_called_90 (by decide) ?_
              refine pm_lvsub [1, 2, 3, 4, 5, 0] (lv' := [(0, (3, 0)), (1, (0, a1)), (2, (0, a2)), (3, (0, a3)), (4, (0, a4)), (5, (0, x69))]) rfl ?_
              exact ih28 _ (by omega) x69 V59 ⟨by omega, by omega⟩ hV63 hF65 rfl
            · skip
              refine pm_iload hC 4 dX11_called_66 rfl ?_
              refine pm_if_ne (tgt := 84) hC ⟨by omega, by omega⟩ dX11_called_68 (by decide) (fun c71 => ?_) (fun c71 => ?_)
              · skip
                exfalso; omega
              · skip
                refine pm_aload_n hC 0 (by decide) dX11_called_71 rfl ?_
                refine pm_getf (v := 63) hC 0 fl_X11_45 rfl rfl (by decide) rfl e66 dX11_called_72 ?_
                have e72 : V59 63 1 = 64 := hV63.one 63 1 (by decide) (by decide) rfl
                refine pm_getf (v := 64) hC 63 fl_X11_328 rfl rfl (by decide) rfl e72 dX11_called_75 ?_
                refine pm_iload hC 5 dX11_called_78 rfl ?_
                obtain ⟨y73, e74⟩ : ∃ y, V59 64 (x20 : Int).toNat = y := ⟨_, rfl⟩
                have b75 := hV63.get 64 (x20 : Int).toNat (lo := 0) (hi := 3) (by decide) (show _ < 10 by omega) rfl
                rw [e74] at b75
                refine pm_iaload (len := 10) (v := y73) hC 64 rfl rfl (by decide) ⟨by omega, by omega⟩ (by decide) e74 dX11_called_80 ?_
                refine pm_goto (tgt := 86) hC dX11_called_81 (by decide) ?_
                exact pm_iret hC hR pm_nar0 ⟨y73, rfl, ⟨by omega, by omega⟩, hV63, hF65⟩ dX11_called_86
      refine pm_lvsub [1, 2, 3, 4, 5, 0] (lv' := [(0, (3, 0)), (1, (0, a1)), (2, (0, a2)), (3, (0, a3)), (4, (0, a4)), (5, (0, 0))]) rfl ?_
      exact L25 _ 0 V15 ⟨by decide, by decide⟩ hV17 hF19 rfl
    · skip
      refine pm_iconst (v := (-1)) hC dX11_called_21 ?_
      exact pm_iret hC hR pm_nar0 ⟨(-1), rfl, ⟨by omega, by omega⟩, hV0, (pm_fr.rf (ws := [57, 62, 63, 68, 73, 74, 75, 76, 77, 83]) (V := V0))⟩ dX11_called_22
  · skip
    refine pm_iload hC 4 dX11_called_5 rfl ?_
    refine pm_iconst (v := 1) hC dX11_called_7 ?_
    refine pm_icmp_ne (tgt := 21) hC ⟨by omega, by omega⟩ ⟨by decide, by decide⟩ dX11_called_8 (by decide) (fun c76 => ?_) (fun c76 => ?_)
    · skip
      refine pm_iconst (v := (-1)) hC dX11_called_21 ?_
      exact pm_iret hC hR pm_nar0 ⟨(-1), rfl, ⟨by omega, by omega⟩, hV0, (pm_fr.rf (ws := [57, 62, 63, 68, 73, 74, 75, 76, 77, 83]) (V := V0))⟩ dX11_called_22
    · skip
      refine pm_aload_n hC 0 (by decide) dX11_called_11 rfl ?_
      refine pm_iload_n hC 1 dX11_called_12 rfl ?_
      refine pm_iload_n hC 2 dX11_called_13 rfl ?_
      refine pm_iload_n hC 3 dX11_called_14 rfl ?_
      refine pm_callV (ci := 11) (as := [(0, a1), (0, a2), (0, a3)]) (st := []) hC 0 (c_X11_isTrial_0 a1 a2 a3 ⟨by omega, by omega⟩ ⟨by omega, by omega⟩ ⟨by omega, by omega⟩) lm_X11_225 li_X11_isTrial (by decide) (by decide) rfl rfl rfl (by decide) rfl rfl (Nat.le_of_ble_eq_true rfl) ⟨Nat.le_refl _, Or.inl rfl⟩ dX11_called_15 ⟨rfl, hV0⟩ (fun r77 V78 hp79 => ?_)
      obtain ⟨y80, rfl, b81, rfl⟩ := hp79
      change pm_J X 18 [(0, (3, 0)), (1, (0, a1)), (2, (0, a2)), (3, (0, a3)), (4, (0, a4))] [(0, y80)] 118 V0
      refine pm_if_ne (tgt := 23) hC ⟨by omega, by omega⟩ dX11_called_18 (by decide) (fun c82 => ?_) (fun c82 => ?_)
      · skip
        refine pm_aload_n hC 0 (by decide) dX11_called_23 rfl ?_
        refine pm_iload_n hC 1 dX11_called_24 rfl ?_
        refine pm_iload_n hC 2 dX11_called_25 rfl ?_
        refine pm_iload_n hC 3 dX11_called_26 rfl ?_
        refine pm_callV (ci := 11) (as := [(0, a1), (0, a2), (0, a3)]) (st := []) hC 0 (c_X11_pose_0 a1 a2 a3 ⟨by omega, by omega⟩ ⟨by omega, by omega⟩ ⟨by omega, by omega⟩ (by omega)) lm_X11_229 li_X11_pose (by decide) (by decide) rfl rfl rfl (by decide) rfl rfl (Nat.le_of_ble_eq_true rfl) ⟨Nat.le_refl _, Or.inl rfl⟩ dX11_called_27 ⟨rfl, hV0⟩ (fun r83 V84 hp85 => ?_)
        obtain ⟨rfl, hV86, hF87⟩ := hp85
        change pm_J X 30 [(0, (3, 0)), (1, (0, a1)), (2, (0, a2)), (3, (0, a3)), (4, (0, a4))] [] 118 V84
        have hF88 := pm_fr.tr (pm_fr.rf (ws := [57, 62, 63, 68, 73, 74, 75, 76, 77, 83]) (V := V0)) hF87 (by decide)
        refine pm_aload_n hC 0 (by decide) dX11_called_30 rfl ?_
        refine pm_iload_n hC 3 dX11_called_31 rfl ?_
        refine pm_callV (ci := 11) (as := [(0, a3)]) (st := []) hC 0 (c_X11_fillAtoms_0 a3 ⟨by omega, by omega⟩) lm_X11_321 li_X11_fillAtoms (by decide) (by decide) rfl rfl rfl (by decide) rfl rfl (Nat.le_of_ble_eq_true rfl) ⟨Nat.le_refl _, Or.inl rfl⟩ dX11_called_32 ⟨rfl, hV86⟩ (fun r89 V90 hp91 => ?_)
        obtain ⟨rfl, hV92, hF93⟩ := hp91
        change pm_J X 35 [(0, (3, 0)), (1, (0, a1)), (2, (0, a2)), (3, (0, a3)), (4, (0, a4))] [] 118 V90
        have hF94 := pm_fr.tr hF88 hF93 (by decide)
        refine pm_iconst (v := 0) hC dX11_called_35 ?_
        refine pm_istore (lv' := [(5, (0, 0)), (0, (3, 0)), (1, (0, a1)), (2, (0, a2)), (3, (0, a3)), (4, (0, a4))]) hC dX11_called_36 (by decide) rfl ?_
        have L100 : ∀ (N102 : Nat) (x95 : Int) (V97 : pm_M), (0 ≤ x95 ∧ x95 ≤ 16) → pm_ok 0 90 V97 → pm_fr [57, 62, 63, 68, 73, 74, 75, 76, 77, 83] V0 V97 → (Int.toNat (16 - x95)) = N102 → pm_J X 38 [(0, (3, 0)), (1, (0, a1)), (2, (0, a2)), (3, (0, a3)), (4, (0, a4)), (5, (0, x95))] [] 118 V97 := by
          intro N102
          induction N102 using Nat.strongRecOn with
          | _ N102 ih103 =>
          intro x95 V97 b96 hV98 hF99 hm101
          refine pm_iload hC 5 dX11_called_38 rfl ?_
          refine pm_aload_n hC 0 (by decide) dX11_called_40 rfl ?_
          rcases hV98.get2 0 10 (lo := 57) (hi := 63) (by decide) (by decide) rfl with e104 | e104
          · skip
            refine pm_getf (v := 57) hC 0 fl_X11_45 rfl rfl (by decide) rfl e104 dX11_called_41 ?_
            obtain ⟨y105, e106⟩ : ∃ y, V97 57 0 = y := ⟨_, rfl⟩
            have b107 := hV98.get 57 0 (lo := 0) (hi := 10) (by decide) (by decide) rfl
            rw [e106] at b107
            refine pm_getf (v := y105) hC 57 fl_X11_139 rfl rfl (by decide) rfl e106 dX11_called_44 ?_
            refine pm_icmp_ge (tgt := 93) hC ⟨by omega, by omega⟩ ⟨by omega, by omega⟩ dX11_called_47 (by decide) (fun c108 => ?_) (fun c108 => ?_)
            · skip
              refine pm_iconst (v := (-1)) hC dX11_called_93 ?_
              exact pm_iret hC hR pm_nar0 ⟨(-1), rfl, ⟨by omega, by omega⟩, hV98, hF99⟩ dX11_called_94
            · skip
              refine pm_aload_n hC 0 (by decide) dX11_called_50 rfl ?_
              refine pm_getf (v := 57) hC 0 fl_X11_45 rfl rfl (by decide) rfl e104 dX11_called_51 ?_
              refine pm_iload hC 5 dX11_called_54 rfl ?_
              refine pm_aload_n hC 0 (by decide) dX11_called_56 rfl ?_
              have e109 : V97 0 7 = 83 := hV98.one 0 7 (by decide) (by decide) rfl
              refine pm_getf (v := 83) hC 0 fl_X11_86 rfl rfl (by decide) rfl e109 dX11_called_57 ?_
              refine pm_callV (ci := 2) (as := [(0, x95), (3, 83)]) (st := []) hC 57 (c_X2_holds_57_83 x95 ⟨by omega, by omega⟩) lm_X11_324 li_X2_holds (by decide) (by decide) rfl rfl rfl (by decide) rfl rfl (Nat.le_of_ble_eq_true rfl) ⟨Nat.le_refl _, Or.inl rfl⟩ dX11_called_60 ⟨rfl, hV98⟩ (fun r110 V111 hp112 => ?_)
              obtain ⟨y113, rfl, b114, hV115, hF116⟩ := hp112
              change pm_J X 63 [(0, (3, 0)), (1, (0, a1)), (2, (0, a2)), (3, (0, a3)), (4, (0, a4)), (5, (0, x95))] [(0, y113)] 118 V111
              have hF117 := pm_fr.tr hF99 hF116 (by decide)
              have e118 : V111 0 10 = 57 := by rw [hF116 0 (by decide)]; exact e104
              have e119 : V111 0 7 = 83 := by rw [hF116 0 (by decide)]; exact e109
              refine pm_if_eq (tgt := 87) hC ⟨by omega, by omega⟩ dX11_called_63 (by decide) (fun c120 => ?_) (fun c120 => ?_)
              · skip
                obtain ⟨x121, ei122⟩ : ∃ y : Int, x95 + 1 = y := ⟨_, rfl⟩
                refine pm_iinc (y := x121) (lv' := [(5, (0, x121)), (0, (3, 0)), (1, (0, a1)), (2, (0, a2)), (3, (0, a3)), (4, (0, a4))]) hC 5 dX11_called_87 (by decide) rfl ei122 rfl ?_
                refine pm_goto (tgt := 38) hC dX11_called_90 (by decide) ?_
                refine pm_lvsub [1, 2, 3, 4, 5, 0] (lv' := [(0, (3, 0)), (1, (0, a1)), (2, (0, a2)), (3, (0, a3)), (4, (0, a4)), (5, (0, x121))]) rfl ?_
                exact ih103 _ (by omega) x121 V111 ⟨by omega, by omega⟩ hV115 hF117 rfl
              · skip
                refine pm_iload hC 4 dX11_called_66 rfl ?_
                refine pm_if_ne (tgt := 84) hC ⟨by omega, by omega⟩ dX11_called_68 (by decide) (fun c123 => ?_) (fun c123 => ?_)
                · skip
                  refine pm_iload hC 5 dX11_called_84 rfl ?_
                  exact pm_iret hC hR pm_nar0 ⟨x95, rfl, ⟨by omega, by omega⟩, hV115, hF117⟩ dX11_called_86
                · skip
                  exfalso; omega
          · skip
            refine pm_getf (v := 63) hC 0 fl_X11_45 rfl rfl (by decide) rfl e104 dX11_called_41 ?_
            obtain ⟨y124, e125⟩ : ∃ y, V97 63 0 = y := ⟨_, rfl⟩
            have b126 := hV98.get 63 0 (lo := 0) (hi := 10) (by decide) (by decide) rfl
            rw [e125] at b126
            refine pm_getf (v := y124) hC 63 fl_X11_139 rfl rfl (by decide) rfl e125 dX11_called_44 ?_
            refine pm_icmp_ge (tgt := 93) hC ⟨by omega, by omega⟩ ⟨by omega, by omega⟩ dX11_called_47 (by decide) (fun c127 => ?_) (fun c127 => ?_)
            · skip
              refine pm_iconst (v := (-1)) hC dX11_called_93 ?_
              exact pm_iret hC hR pm_nar0 ⟨(-1), rfl, ⟨by omega, by omega⟩, hV98, hF99⟩ dX11_called_94
            · skip
              refine pm_aload_n hC 0 (by decide) dX11_called_50 rfl ?_
              refine pm_getf (v := 63) hC 0 fl_X11_45 rfl rfl (by decide) rfl e104 dX11_called_51 ?_
              refine pm_iload hC 5 dX11_called_54 rfl ?_
              refine pm_aload_n hC 0 (by decide) dX11_called_56 rfl ?_
              have e128 : V97 0 7 = 83 := hV98.one 0 7 (by decide) (by decide) rfl
              refine pm_getf (v := 83) hC 0 fl_X11_86 rfl rfl (by decide) rfl e128 dX11_called_57 ?_
              refine pm_callV (ci := 2) (as := [(0, x95), (3, 83)]) (st := []) hC 63 (c_X2_holds_63_83 x95 ⟨by omega, by omega⟩) lm_X11_324 li_X2_holds (by decide) (by decide) rfl rfl rfl (by decide) rfl rfl (Nat.le_of_ble_eq_true rfl) ⟨Nat.le_refl _, Or.inl rfl⟩ dX11_called_60 ⟨rfl, hV98⟩ (fun r129 V130 hp131 => ?_)
              obtain ⟨y132, rfl, b133, hV134, hF135⟩ := hp131
              change pm_J X 63 [(0, (3, 0)), (1, (0, a1)), (2, (0, a2)), (3, (0, a3)), (4, (0, a4)), (5, (0, x95))] [(0, y132)] 118 V130
              have hF136 := pm_fr.tr hF99 hF135 (by decide)
              have e137 : V130 0 10 = 63 := by rw [hF135 0 (by decide)]; exact e104
              have e138 : V130 0 7 = 83 := by rw [hF135 0 (by decide)]; exact e128
              refine pm_if_eq (tgt := 87) hC ⟨by omega, by omega⟩ dX11_called_63 (by decide) (fun c139 => ?_) (fun c139 => ?_)
              · skip
                obtain ⟨x140, ei141⟩ : ∃ y : Int, x95 + 1 = y := ⟨_, rfl⟩
                refine pm_iinc (y := x140) (lv' := [(5, (0, x140)), (0, (3, 0)), (1, (0, a1)), (2, (0, a2)), (3, (0, a3)), (4, (0, a4))]) hC 5 dX11_called_87 (by decide) rfl ei141 rfl ?_
                refine pm_goto (tgt := 38) hC dX11_called_90 (by decide) ?_
                refine pm_lvsub [1, 2, 3, 4, 5, 0] (lv' := [(0, (3, 0)), (1, (0, a1)), (2, (0, a2)), (3, (0, a3)), (4, (0, a4)), (5, (0, x140))]) rfl ?_
                exact ih103 _ (by omega) x140 V130 ⟨by omega, by omega⟩ hV134 hF136 rfl
              · skip
                refine pm_iload hC 4 dX11_called_66 rfl ?_
                refine pm_if_ne (tgt := 84) hC ⟨by omega, by omega⟩ dX11_called_68 (by decide) (fun c142 => ?_) (fun c142 => ?_)
                · skip
                  refine pm_iload hC 5 dX11_called_84 rfl ?_
                  exact pm_iret hC hR pm_nar0 ⟨x95, rfl, ⟨by omega, by omega⟩, hV134, hF136⟩ dX11_called_86
                · skip
                  exfalso; omega
        refine pm_lvsub [1, 2, 3, 4, 5, 0] (lv' := [(0, (3, 0)), (1, (0, a1)), (2, (0, a2)), (3, (0, a3)), (4, (0, a4)), (5, (0, 0))]) rfl ?_
        exact L100 _ 0 V90 ⟨by decide, by decide⟩ hV92 hF94 rfl
      · skip
        refine pm_iconst (v := (-1)) hC dX11_called_21 ?_
        exact pm_iret hC hR pm_nar0 ⟨(-1), rfl, ⟨by omega, by omega⟩, hV0, (pm_fr.rf (ws := [57, 62, 63, 68, 73, 74, 75, 76, 77, 83]) (V := V0))⟩ dX11_called_22
set_option maxHeartbeats 4000000 in
set_option maxRecDepth 100000 in
theorem c_X11_lotBelow_0 (a1 : Int) (h0 : (-9223372036854775808) ≤ a1 ∧ a1 ≤ 9223372036854775807) : pm_K 1 yX11_lotBelow cX11_lotBelow 3 (some .int) (fun av V => av = [(3, 0), (1, a1)] ∧ pm_ok 0 90 V) (fun _ V r V' => ∃ y, r = some (0, y) ∧ (0 ≤ y ∧ y ≤ 8388607 ∧ (0 ≤ y) ∧ (0 < a1 → y < a1) ∧ (a1 ≤ 0 → y = 0)) ∧ pm_ok 0 90 V' ∧ pm_fr [0] V V') := by
  refine pm_MT.of (by decide) ⟨Nat.le_refl _, by decide⟩ (fun av V h => by rw [h.1]; exact (by decide : pm_words [(3, 0), (1, 0)] ≤ 3)) ?_
  rintro X av V0 hC - hR ⟨rfl, hV0⟩
  change pm_J X 0 [(0, (3, 0)), (1, (1, a1))] [] 118 V0
  refine pm_aload_n hC 0 (by decide) dX11_lotBelow_0 rfl ?_
  refine pm_aload_n hC 0 (by decide) dX11_lotBelow_1 rfl ?_
  obtain ⟨y1, e2⟩ : ∃ y, V0 0 16 = y := ⟨_, rfl⟩
  have b3 := hV0.get 0 16 (lo := (-9223372036854775808)) (hi := 9223372036854775807) (by decide) (by decide) rfl
  rw [e2] at b3
  refine pm_getf (v := y1) hC 0 fl_X11_107 rfl rfl (by decide) rfl e2 dX11_lotBelow_2 ?_
  refine pm_ldc2 (v := 1103515245) hC 5093 dX11_lotBelow_5 (by decide +kernel) ?_
  refine pm_lmul hC dX11_lotBelow_8 ?_
  refine pm_someL hC (fun y4 b5 => ?_)
  have b5 := And.intro b5.1 b5.2
  refine pm_ldc2 (v := 12345) hC 5094 dX11_lotBelow_9 (by decide +kernel) ?_
  refine pm_ladd hC dX11_lotBelow_12 ?_
  refine pm_someL hC (fun y6 b7 => ?_)
  have b7 := And.intro b7.1 b7.2
  refine pm_ldc2 (v := 2147483647) hC 5095 dX11_lotBelow_13 (by decide +kernel) ?_
  refine pm_land hC dX11_lotBelow_16 ?_
  have b9 := pm_landb (x := y6) (y := 2147483647) (by decide)
  generalize (pm_landV y6 2147483647) = y8 at b9 ⊢
  refine pm_putf hC 0 fl_X11_107 rfl rfl rfl (by decide) rfl trivial dX11_lotBelow_17 ?_
  refine pm_lload_n hC 1 dX11_lotBelow_20 rfl ?_
  refine pm_lconst (x := 0) hC dX11_lotBelow_21 rfl ?_
  refine pm_lcmp hC ⟨by omega, by omega⟩ ⟨by decide, by decide⟩ dX11_lotBelow_22 (fun y10 b11 => ?_)
  refine pm_if_gt (tgt := 30) hC ⟨by omega, by omega⟩ dX11_lotBelow_23 (by decide) (fun c12 => ?_) (fun c12 => ?_)
  · skip
    refine pm_aload_n hC 0 (by decide) dX11_lotBelow_30 rfl ?_
    refine pm_getf (v := y8) hC 0 fl_X11_107 rfl rfl (by decide) rfl rfl dX11_lotBelow_31 ?_
    refine pm_ldc2 (v := 256) hC 5096 dX11_lotBelow_34 (by decide +kernel) ?_
    refine pm_ldiv hC ⟨by omega, by omega, by omega⟩ ⟨by decide, by decide, by decide⟩ dX11_lotBelow_37 ?_
    refine pm_lload_n hC 1 dX11_lotBelow_38 rfl ?_
    refine pm_lrem hC ⟨by omega, by omega, by omega⟩ ⟨by omega, by omega, by omega⟩ dX11_lotBelow_39 ?_
    have b14 := pm_modb (x := (y8 / 256)) (y := a1) (by omega) (by omega)
    generalize ((y8 / 256) % a1) = y13 at b14 ⊢
    refine pm_l2i hC dX11_lotBelow_40 ?_
    exact pm_iret hC hR pm_nar0 ⟨y13, rfl, ⟨by omega, by omega, by omega, by omega, by omega⟩, (hV0.put 0 16 (x := y8) (lo := (-9223372036854775808)) (hi := 9223372036854775807) rfl ⟨by omega, by omega⟩), ((pm_fr.rf (ws := [0]) (V := V0)).up 0 16 y8 rfl)⟩ dX11_lotBelow_41
  · skip
    refine pm_iconst (v := 0) hC dX11_lotBelow_26 ?_
    refine pm_goto (tgt := 41) hC dX11_lotBelow_27 (by decide) ?_
    exact pm_iret hC hR pm_nar0 ⟨0, rfl, ⟨by omega, by omega, by omega, by omega, by omega⟩, (hV0.put 0 16 (x := y8) (lo := (-9223372036854775808)) (hi := 9223372036854775807) rfl ⟨by omega, by omega⟩), ((pm_fr.rf (ws := [0]) (V := V0)).up 0 16 y8 rfl)⟩ dX11_lotBelow_41
set_option maxHeartbeats 4000000 in
set_option maxRecDepth 100000 in
theorem c_X10_saidAt_73 (a1 : Int) (h0 : (-9223372036854775808) ≤ a1 ∧ a1 ≤ 9223372036854775807) : pm_K 1 yX10_saidAt cX10_saidAt 6 (some .int) (fun av V => av = [(3, 73), (1, a1)] ∧ pm_ok 0 90 V) (fun _ V r V' => ∃ y, r = some (0, y) ∧ (0 ≤ y ∧ y ≤ 8) ∧ V = V') := by
  refine pm_MT.of (by decide) ⟨Nat.le_refl _, by decide⟩ (fun av V h => by rw [h.1]; exact (by decide : pm_words [(3, 0), (1, 0)] ≤ 6)) ?_
  rintro X av V0 hC - hR ⟨rfl, hV0⟩
  change pm_J X 0 [(0, (3, 73)), (1, (1, a1))] [] 118 V0
  refine pm_lconst (x := 0) hC dX10_saidAt_0 rfl ?_
  refine pm_lstore_n (lv' := [(3, (1, 0)), (0, (3, 73)), (1, (1, a1))]) hC dX10_saidAt_1 (by decide) rfl ?_
  refine pm_iconst (v := 0) hC dX10_saidAt_2 ?_
  refine pm_istore (lv' := [(5, (0, 0)), (3, (1, 0)), (0, (3, 73)), (1, (1, a1))]) hC dX10_saidAt_3 (by decide) rfl ?_
  have L5 : ∀ (N7 : Nat) (x1 : Int) (x3 : Int), ((-9223372036854775808) ≤ x1 ∧ x1 ≤ 9223372036854775807) → (0 ≤ x3 ∧ x3 ≤ 9) → (Int.toNat (9 - x3)) = N7 → pm_J X 5 [(0, (3, 73)), (1, (1, a1)), (3, (1, x1)), (5, (0, x3))] [] 118 V0 := by
    intro N7
    induction N7 using Nat.strongRecOn with
    | _ N7 ih8 =>
    intro x1 x3 b2 b4 hm6
    refine pm_iload hC 3 dX10_saidAt_5 rfl ?_
    refine pm_aload_n hC 0 (by decide) dX10_saidAt_7 rfl ?_
    rcases hV0.get2 73 0 (lo := 45) (hi := 51) (by decide) (by decide) rfl with e9 | e9
    · skip
      refine pm_getf (v := 45) hC 73 fl_X10_59 rfl rfl (by decide) rfl e9 dX10_saidAt_8 ?_
      obtain ⟨y10, e11⟩ : ∃ y, V0 45 0 = y := ⟨_, rfl⟩
      have b12 := hV0.get 45 0 (lo := 0) (hi := 9) (by decide) (by decide) rfl
      rw [e11] at b12
      refine pm_getf (v := y10) hC 45 fl_X10_79 rfl rfl (by decide) rfl e11 dX10_saidAt_11 ?_
      refine pm_icmp_ge (tgt := 42) hC ⟨by omega, by omega⟩ ⟨by omega, by omega⟩ dX10_saidAt_14 (by decide) (fun c13 => ?_) (fun c13 => ?_)
      · skip
        refine pm_iconst (v := 0) hC dX10_saidAt_42 ?_
        exact pm_iret hC hR pm_nar0 ⟨0, rfl, ⟨by omega, by omega⟩, rfl⟩ dX10_saidAt_43
      · skip
        refine pm_lload_n hC 2 dX10_saidAt_17 rfl ?_
        refine pm_aload_n hC 0 (by decide) dX10_saidAt_18 rfl ?_
        rcases hV0.get2 73 13 (lo := 76) (hi := 77) (by decide) (by decide) rfl with e14 | e14
        · skip
          refine pm_getf (v := 76) hC 73 fl_X10_50 rfl rfl (by decide) rfl e14 dX10_saidAt_19 ?_
          refine pm_iload hC 3 dX10_saidAt_22 rfl ?_
          obtain ⟨y15, e16⟩ : ∃ y, V0 76 (x3 : Int).toNat = y := ⟨_, rfl⟩
          have b17 := hV0.get 76 (x3 : Int).toNat (lo := (-9223372036854775808)) (hi := 9223372036854775807) (by decide) (show _ < 9 by omega) rfl
          rw [e16] at b17
          refine pm_laload (len := 9) (v := y15) hC 76 rfl rfl (by decide) ⟨by omega, by omega⟩ (by decide) e16 dX10_saidAt_24 ?_
          refine pm_ladd hC dX10_saidAt_25 ?_
          refine pm_someL hC (fun y18 b19 => ?_)
          have b19 := And.intro b19.1 b19.2
          refine pm_lstore_n (lv' := [(3, (1, y18)), (0, (3, 73)), (1, (1, a1)), (5, (0, x3))]) hC dX10_saidAt_26 (by decide) rfl ?_
          refine pm_lload_n hC 0 dX10_saidAt_27 rfl ?_
          refine pm_lload_n hC 2 dX10_saidAt_28 rfl ?_
          refine pm_lcmp hC ⟨by omega, by omega⟩ ⟨by omega, by omega⟩ dX10_saidAt_29 (fun y20 b21 => ?_)
          refine pm_if_le (tgt := 36) hC ⟨by omega, by omega⟩ dX10_saidAt_30 (by decide) (fun c22 => ?_) (fun c22 => ?_)
          · skip
            obtain ⟨x23, ei24⟩ : ∃ y : Int, x3 + 1 = y := ⟨_, rfl⟩
            refine pm_iinc (y := x23) (lv' := [(5, (0, x23)), (3, (1, y18)), (0, (3, 73)), (1, (1, a1))]) hC 3 dX10_saidAt_36 (by decide) rfl ei24 rfl ?_
            refine pm_goto (tgt := 5) hC dX10_saidAt_39 (by decide) ?_
            refine pm_lvsub [2, 3, 1, 0] (lv' := [(0, (3, 73)), (1, (1, a1)), (3, (1, y18)), (5, (0, x23))]) rfl ?_
            exact ih8 _ (by omega) y18 x23 ⟨by omega, by omega⟩ ⟨by omega, by omega⟩ rfl
          · skip
            refine pm_iload hC 3 dX10_saidAt_33 rfl ?_
            exact pm_iret hC hR pm_nar0 ⟨x3, rfl, ⟨by omega, by omega⟩, rfl⟩ dX10_saidAt_35
        · skip
          refine pm_getf (v := 77) hC 73 fl_X10_50 rfl rfl (by decide) rfl e14 dX10_saidAt_19 ?_
          refine pm_iload hC 3 dX10_saidAt_22 rfl ?_
          obtain ⟨y25, e26⟩ : ∃ y, V0 77 (x3 : Int).toNat = y := ⟨_, rfl⟩
          have b27 := hV0.get 77 (x3 : Int).toNat (lo := (-9223372036854775808)) (hi := 9223372036854775807) (by decide) (show _ < 9 by omega) rfl
          rw [e26] at b27
          refine pm_laload (len := 9) (v := y25) hC 77 rfl rfl (by decide) ⟨by omega, by omega⟩ (by decide) e26 dX10_saidAt_24 ?_
          refine pm_ladd hC dX10_saidAt_25 ?_
          refine pm_someL hC (fun y28 b29 => ?_)
          have b29 := And.intro b29.1 b29.2
          refine pm_lstore_n (lv' := [(3, (1, y28)), (0, (3, 73)), (1, (1, a1)), (5, (0, x3))]) hC dX10_saidAt_26 (by decide) rfl ?_
          refine pm_lload_n hC 0 dX10_saidAt_27 rfl ?_
          refine pm_lload_n hC 2 dX10_saidAt_28 rfl ?_
          refine pm_lcmp hC ⟨by omega, by omega⟩ ⟨by omega, by omega⟩ dX10_saidAt_29 (fun y30 b31 => ?_)
          refine pm_if_le (tgt := 36) hC ⟨by omega, by omega⟩ dX10_saidAt_30 (by decide) (fun c32 => ?_) (fun c32 => ?_)
          · skip
            obtain ⟨x33, ei34⟩ : ∃ y : Int, x3 + 1 = y := ⟨_, rfl⟩
            refine pm_iinc (y := x33) (lv' := [(5, (0, x33)), (3, (1, y28)), (0, (3, 73)), (1, (1, a1))]) hC 3 dX10_saidAt_36 (by decide) rfl ei34 rfl ?_
            refine pm_goto (tgt := 5) hC dX10_saidAt_39 (by decide) ?_
            refine pm_lvsub [2, 3, 1, 0] (lv' := [(0, (3, 73)), (1, (1, a1)), (3, (1, y28)), (5, (0, x33))]) rfl ?_
            exact ih8 _ (by omega) y28 x33 ⟨by omega, by omega⟩ ⟨by omega, by omega⟩ rfl
          · skip
            refine pm_iload hC 3 dX10_saidAt_33 rfl ?_
            exact pm_iret hC hR pm_nar0 ⟨x3, rfl, ⟨by omega, by omega⟩, rfl⟩ dX10_saidAt_35
    · skip
      refine pm_getf (v := 51) hC 73 fl_X10_59 rfl rfl (by decide) rfl e9 dX10_saidAt_8 ?_
      obtain ⟨y35, e36⟩ : ∃ y, V0 51 0 = y := ⟨_, rfl⟩
      have b37 := hV0.get 51 0 (lo := 0) (hi := 9) (by decide) (by decide) rfl
      rw [e36] at b37
      refine pm_getf (v := y35) hC 51 fl_X10_79 rfl rfl (by decide) rfl e36 dX10_saidAt_11 ?_
      refine pm_icmp_ge (tgt := 42) hC ⟨by omega, by omega⟩ ⟨by omega, by omega⟩ dX10_saidAt_14 (by decide) (fun c38 => ?_) (fun c38 => ?_)
      · skip
        refine pm_iconst (v := 0) hC dX10_saidAt_42 ?_
        exact pm_iret hC hR pm_nar0 ⟨0, rfl, ⟨by omega, by omega⟩, rfl⟩ dX10_saidAt_43
      · skip
        refine pm_lload_n hC 2 dX10_saidAt_17 rfl ?_
        refine pm_aload_n hC 0 (by decide) dX10_saidAt_18 rfl ?_
        rcases hV0.get2 73 13 (lo := 76) (hi := 77) (by decide) (by decide) rfl with e39 | e39
        · skip
          refine pm_getf (v := 76) hC 73 fl_X10_50 rfl rfl (by decide) rfl e39 dX10_saidAt_19 ?_
          refine pm_iload hC 3 dX10_saidAt_22 rfl ?_
          obtain ⟨y40, e41⟩ : ∃ y, V0 76 (x3 : Int).toNat = y := ⟨_, rfl⟩
          have b42 := hV0.get 76 (x3 : Int).toNat (lo := (-9223372036854775808)) (hi := 9223372036854775807) (by decide) (show _ < 9 by omega) rfl
          rw [e41] at b42
          refine pm_laload (len := 9) (v := y40) hC 76 rfl rfl (by decide) ⟨by omega, by omega⟩ (by decide) e41 dX10_saidAt_24 ?_
          refine pm_ladd hC dX10_saidAt_25 ?_
          refine pm_someL hC (fun y43 b44 => ?_)
          have b44 := And.intro b44.1 b44.2
          refine pm_lstore_n (lv' := [(3, (1, y43)), (0, (3, 73)), (1, (1, a1)), (5, (0, x3))]) hC dX10_saidAt_26 (by decide) rfl ?_
          refine pm_lload_n hC 0 dX10_saidAt_27 rfl ?_
          refine pm_lload_n hC 2 dX10_saidAt_28 rfl ?_
          refine pm_lcmp hC ⟨by omega, by omega⟩ ⟨by omega, by omega⟩ dX10_saidAt_29 (fun y45 b46 => ?_)
          refine pm_if_le (tgt := 36) hC ⟨by omega, by omega⟩ dX10_saidAt_30 (by decide) (fun c47 => ?_) (fun c47 => ?_)
          · skip
            obtain ⟨x48, ei49⟩ : ∃ y : Int, x3 + 1 = y := ⟨_, rfl⟩
            refine pm_iinc (y := x48) (lv' := [(5, (0, x48)), (3, (1, y43)), (0, (3, 73)), (1, (1, a1))]) hC 3 dX10_saidAt_36 (by decide) rfl ei49 rfl ?_
            refine pm_goto (tgt := 5) hC dX10_saidAt_39 (by decide) ?_
            refine pm_lvsub [2, 3, 1, 0] (lv' := [(0, (3, 73)), (1, (1, a1)), (3, (1, y43)), (5, (0, x48))]) rfl ?_
            exact ih8 _ (by omega) y43 x48 ⟨by omega, by omega⟩ ⟨by omega, by omega⟩ rfl
          · skip
            refine pm_iload hC 3 dX10_saidAt_33 rfl ?_
            exact pm_iret hC hR pm_nar0 ⟨x3, rfl, ⟨by omega, by omega⟩, rfl⟩ dX10_saidAt_35
        · skip
          refine pm_getf (v := 77) hC 73 fl_X10_50 rfl rfl (by decide) rfl e39 dX10_saidAt_19 ?_
          refine pm_iload hC 3 dX10_saidAt_22 rfl ?_
          obtain ⟨y50, e51⟩ : ∃ y, V0 77 (x3 : Int).toNat = y := ⟨_, rfl⟩
          have b52 := hV0.get 77 (x3 : Int).toNat (lo := (-9223372036854775808)) (hi := 9223372036854775807) (by decide) (show _ < 9 by omega) rfl
          rw [e51] at b52
          refine pm_laload (len := 9) (v := y50) hC 77 rfl rfl (by decide) ⟨by omega, by omega⟩ (by decide) e51 dX10_saidAt_24 ?_
          refine pm_ladd hC dX10_saidAt_25 ?_
          refine pm_someL hC (fun y53 b54 => ?_)
          have b54 := And.intro b54.1 b54.2
          refine pm_lstore_n (lv' := [(3, (1, y53)), (0, (3, 73)), (1, (1, a1)), (5, (0, x3))]) hC dX10_saidAt_26 (by decide) rfl ?_
          refine pm_lload_n hC 0 dX10_saidAt_27 rfl ?_
          refine pm_lload_n hC 2 dX10_saidAt_28 rfl ?_
          refine pm_lcmp hC ⟨by omega, by omega⟩ ⟨by omega, by omega⟩ dX10_saidAt_29 (fun y55 b56 => ?_)
          refine pm_if_le (tgt := 36) hC ⟨by omega, by omega⟩ dX10_saidAt_30 (by decide) (fun c57 => ?_) (fun c57 => ?_)
          · skip
            obtain ⟨x58, ei59⟩ : ∃ y : Int, x3 + 1 = y := ⟨_, rfl⟩
            refine pm_iinc (y := x58) (lv' := [(5, (0, x58)), (3, (1, y53)), (0, (3, 73)), (1, (1, a1))]) hC 3 dX10_saidAt_36 (by decide) rfl ei59 rfl ?_
            refine pm_goto (tgt := 5) hC dX10_saidAt_39 (by decide) ?_
            refine pm_lvsub [2, 3, 1, 0] (lv' := [(0, (3, 73)), (1, (1, a1)), (3, (1, y53)), (5, (0, x58))]) rfl ?_
            exact ih8 _ (by omega) y53 x58 ⟨by omega, by omega⟩ ⟨by omega, by omega⟩ rfl
          · skip
            refine pm_iload hC 3 dX10_saidAt_33 rfl ?_
            exact pm_iret hC hR pm_nar0 ⟨x3, rfl, ⟨by omega, by omega⟩, rfl⟩ dX10_saidAt_35
  refine pm_lvsub [2, 3, 1, 0] (lv' := [(0, (3, 73)), (1, (1, a1)), (3, (1, 0)), (5, (0, 0))]) rfl ?_
  exact L5 _ 0 0 ⟨by decide, by decide⟩ ⟨by decide, by decide⟩ rfl
set_option maxHeartbeats 4000000 in
set_option maxRecDepth 100000 in
theorem c_X11_drawAnswer_0 (a1 a2 : Int) (h0 : (-2147483648) ≤ a1 ∧ a1 ≤ 2147483647) (h1 : 0 ≤ a2 ∧ a2 ≤ 9) : pm_K 5 yX11_drawAnswer cX11_drawAnswer 12 none (fun av V => av = [(3, 0), (0, a1), (0, a2)] ∧ pm_ok 0 90 V) (fun _ V r V' => r = none ∧ pm_ok 0 90 V' ∧ pm_fr [0, 4, 9, 10, 11, 12, 13, 73, 74, 75, 76, 77] V V') := by
  refine pm_MT.of (by decide) ⟨Nat.le_refl _, by decide⟩ (fun av V h => by rw [h.1]; exact (by decide : pm_words [(3, 0), (0, 0), (0, 0)] ≤ 12)) ?_
  rintro X av V0 hC - hR ⟨rfl, hV0⟩
  change pm_J X 0 [(0, (3, 0)), (1, (0, a1)), (2, (0, a2))] [] 118 V0
  refine pm_aload_n hC 0 (by decide) dX11_drawAnswer_0 rfl ?_
  refine pm_aload_n hC 0 (by decide) dX11_drawAnswer_1 rfl ?_
  rcases hV0.get2 0 8 (lo := 45) (hi := 51) (by decide) (by decide) rfl with e1 | e1
  · skip
    refine pm_getf (v := 45) hC 0 fl_X11_35 rfl rfl (by decide) rfl e1 dX11_drawAnswer_2 ?_
    obtain ⟨y2, e3⟩ : ∃ y, V0 45 0 = y := ⟨_, rfl⟩
    have b4 := hV0.get 45 0 (lo := 0) (hi := 9) (by decide) (by decide) rfl
    rw [e3] at b4
    refine pm_getf (v := y2) hC 45 fl_X11_136 rfl rfl (by decide) rfl e3 dX11_drawAnswer_5 ?_
    refine pm_i2l hC ⟨by omega, by omega⟩ dX11_drawAnswer_8 ?_
    refine pm_callV (ci := 11) (as := [(1, y2)]) (st := []) hC 0 (c_X11_lotBelow_0 y2 ⟨by omega, by omega⟩) lm_X11_392 li_X11_lotBelow (by decide) (by decide) rfl rfl rfl (by decide) rfl rfl (Nat.le_of_ble_eq_true rfl) ⟨Nat.le_refl _, Or.inl rfl⟩ dX11_drawAnswer_9 ⟨rfl, hV0⟩ (fun r5 V6 hp7 => ?_)
    obtain ⟨y8, rfl, b9, hV10, hF11⟩ := hp7
    change pm_J X 12 [(0, (3, 0)), (1, (0, a1)), (2, (0, a2))] [(0, y8)] 118 V6
    have hF12 := pm_fr.tr (pm_fr.rf (ws := [0, 4, 9, 10, 11, 12, 13, 73, 74, 75, 76, 77]) (V := V0)) hF11 (by decide)
    have e13 : V6 45 0 = y2 := by rw [hF11 45 (by decide)]; exact e3
    refine pm_istore_n (lv' := [(3, (0, y8)), (0, (3, 0)), (1, (0, a1)), (2, (0, a2))]) hC dX11_drawAnswer_12 (by decide) rfl ?_
    refine pm_aload_n hC 1 (by decide) dX11_drawAnswer_13 rfl ?_
    refine pm_aload_n hC 1 (by decide) dX11_drawAnswer_14 rfl ?_
    rcases hV10.get2 0 8 (lo := 45) (hi := 51) (by decide) (by decide) rfl with e14 | e14
    · skip
      refine pm_getf (v := 45) hC 0 fl_X11_35 rfl rfl (by decide) rfl e14 dX11_drawAnswer_15 ?_
      refine pm_getf (v := y2) hC 45 fl_X11_136 rfl rfl (by decide) rfl e13 dX11_drawAnswer_18 ?_
      refine pm_i2l hC ⟨by omega, by omega⟩ dX11_drawAnswer_21 ?_
      refine pm_callV (ci := 11) (as := [(1, y2)]) (st := []) hC 0 (c_X11_lotBelow_0 y2 ⟨by omega, by omega⟩) lm_X11_392 li_X11_lotBelow (by decide) (by decide) rfl rfl rfl (by decide) rfl rfl (Nat.le_of_ble_eq_true rfl) ⟨Nat.le_refl _, Or.inl rfl⟩ dX11_drawAnswer_22 ⟨rfl, hV10⟩ (fun r15 V16 hp17 => ?_)
      obtain ⟨y18, rfl, b19, hV20, hF21⟩ := hp17
      change pm_J X 25 [(3, (0, y8)), (0, (3, 0)), (1, (0, a1)), (2, (0, a2))] [(0, y18)] 118 V16
      have hF22 := pm_fr.tr hF12 hF21 (by decide)
      have e23 : V16 45 0 = y2 := by rw [hF21 45 (by decide)]; exact e13
      refine pm_istore (lv' := [(4, (0, y18)), (3, (0, y8)), (0, (3, 0)), (1, (0, a1)), (2, (0, a2))]) hC dX11_drawAnswer_25 (by decide) rfl ?_
      refine pm_aload_n hC 2 (by decide) dX11_drawAnswer_27 rfl ?_
      refine pm_ldc2 (v := 10) hC 5097 dX11_drawAnswer_28 (by decide +kernel) ?_
      refine pm_callV (ci := 11) (as := [(1, 10)]) (st := []) hC 0 (c_X11_lotBelow_0 10 ⟨by decide, by decide⟩) lm_X11_392 li_X11_lotBelow (by decide) (by decide) rfl rfl rfl (by decide) rfl rfl (Nat.le_of_ble_eq_true rfl) ⟨Nat.le_refl _, Or.inl rfl⟩ dX11_drawAnswer_31 ⟨rfl, hV20⟩ (fun r24 V25 hp26 => ?_)
      obtain ⟨y27, rfl, b28, hV29, hF30⟩ := hp26
      change pm_J X 34 [(4, (0, y18)), (3, (0, y8)), (0, (3, 0)), (1, (0, a1)), (2, (0, a2))] [(0, y27)] 118 V25
      have hF31 := pm_fr.tr hF22 hF30 (by decide)
      have e32 : V25 45 0 = y2 := by rw [hF30 45 (by decide)]; exact e23
      refine pm_istore (lv' := [(5, (0, y27)), (4, (0, y18)), (3, (0, y8)), (0, (3, 0)), (1, (0, a1)), (2, (0, a2))]) hC dX11_drawAnswer_34 (by decide) rfl ?_
      refine pm_aload_n hC 3 (by decide) dX11_drawAnswer_36 rfl ?_
      refine pm_ldc2 (v := 10) hC 5097 dX11_drawAnswer_37 (by decide +kernel) ?_
      refine pm_callV (ci := 11) (as := [(1, 10)]) (st := []) hC 0 (c_X11_lotBelow_0 10 ⟨by decide, by decide⟩) lm_X11_392 li_X11_lotBelow (by decide) (by decide) rfl rfl rfl (by decide) rfl rfl (Nat.le_of_ble_eq_true rfl) ⟨Nat.le_refl _, Or.inl rfl⟩ dX11_drawAnswer_40 ⟨rfl, hV29⟩ (fun r33 V34 hp35 => ?_)
      obtain ⟨y36, rfl, b37, hV38, hF39⟩ := hp35
      change pm_J X 43 [(5, (0, y27)), (4, (0, y18)), (3, (0, y8)), (0, (3, 0)), (1, (0, a1)), (2, (0, a2))] [(0, y36)] 118 V34
      have hF40 := pm_fr.tr hF31 hF39 (by decide)
      have e41 : V34 45 0 = y2 := by rw [hF39 45 (by decide)]; exact e32
      refine pm_istore (lv' := [(6, (0, y36)), (5, (0, y27)), (4, (0, y18)), (3, (0, y8)), (0, (3, 0)), (1, (0, a1)), (2, (0, a2))]) hC dX11_drawAnswer_43 (by decide) rfl ?_
      refine pm_aload_n hC 4 (by decide) dX11_drawAnswer_45 rfl ?_
      refine pm_ldc2 (v := 199) hC 5098 dX11_drawAnswer_46 (by decide +kernel) ?_
      refine pm_callV (ci := 11) (as := [(1, 199)]) (st := []) hC 0 (c_X11_lotBelow_0 199 ⟨by decide, by decide⟩) lm_X11_392 li_X11_lotBelow (by decide) (by decide) rfl rfl rfl (by decide) rfl rfl (Nat.le_of_ble_eq_true rfl) ⟨Nat.le_refl _, Or.inl rfl⟩ dX11_drawAnswer_49 ⟨rfl, hV38⟩ (fun r42 V43 hp44 => ?_)
      obtain ⟨y45, rfl, b46, hV47, hF48⟩ := hp44
      change pm_J X 52 [(6, (0, y36)), (5, (0, y27)), (4, (0, y18)), (3, (0, y8)), (0, (3, 0)), (1, (0, a1)), (2, (0, a2))] [(0, y45)] 118 V43
      have hF49 := pm_fr.tr hF40 hF48 (by decide)
      have e50 : V43 45 0 = y2 := by rw [hF48 45 (by decide)]; exact e41
      refine pm_bipush (v := 99) hC dX11_drawAnswer_52 (by decide) ?_
      refine pm_isub hC dX11_drawAnswer_54 ?_
      refine pm_istore (lv' := [(7, (0, (y45 - 99))), (6, (0, y36)), (5, (0, y27)), (4, (0, y18)), (3, (0, y8)), (0, (3, 0)), (1, (0, a1)), (2, (0, a2))]) hC dX11_drawAnswer_55 (by decide) rfl ?_
      refine pm_iload_n hC 7 dX11_drawAnswer_57 rfl ?_
      refine pm_bipush (v := 100) hC dX11_drawAnswer_58 (by decide) ?_
      refine pm_imul hC dX11_drawAnswer_60 ?_
      refine pm_iload_n hC 4 dX11_drawAnswer_61 rfl ?_
      refine pm_bipush (v := 10) hC dX11_drawAnswer_62 (by decide) ?_
      refine pm_imul hC dX11_drawAnswer_64 ?_
      refine pm_iadd hC dX11_drawAnswer_65 ?_
      refine pm_iload hC 3 dX11_drawAnswer_66 rfl ?_
      refine pm_iadd hC dX11_drawAnswer_68 ?_
      refine pm_istore (lv' := [(8, (0, (((a2 * 100) + (y8 * 10)) + y18))), (7, (0, (y45 - 99))), (6, (0, y36)), (5, (0, y27)), (4, (0, y18)), (3, (0, y8)), (0, (3, 0)), (1, (0, a1)), (2, (0, a2))]) hC dX11_drawAnswer_69 (by decide) rfl ?_
      refine pm_iload hC 3 dX11_drawAnswer_71 rfl ?_
      refine pm_bipush (v := 10) hC dX11_drawAnswer_73 (by decide) ?_
      refine pm_imul hC dX11_drawAnswer_75 ?_
      refine pm_iload hC 2 dX11_drawAnswer_76 rfl ?_
      refine pm_iadd hC dX11_drawAnswer_78 ?_
      refine pm_istore (lv' := [(9, (0, ((y27 * 10) + y36))), (8, (0, (((a2 * 100) + (y8 * 10)) + y18))), (7, (0, (y45 - 99))), (6, (0, y36)), (5, (0, y27)), (4, (0, y18)), (3, (0, y8)), (0, (3, 0)), (1, (0, a1)), (2, (0, a2))]) hC dX11_drawAnswer_79 (by decide) rfl ?_
      refine pm_aload_n hC 7 (by decide) dX11_drawAnswer_81 rfl ?_
      refine pm_iload hC 1 dX11_drawAnswer_82 rfl ?_
      refine pm_iload hC 0 dX11_drawAnswer_84 rfl ?_
      refine pm_iload hC 2 dX11_drawAnswer_86 rfl ?_
      refine pm_callV (ci := 11) (as := [(0, (((a2 * 100) + (y8 * 10)) + y18)), (0, ((y27 * 10) + y36)), (0, (y45 - 99))]) (st := []) hC 0 (c_X11_pose_0 (((a2 * 100) + (y8 * 10)) + y18) ((y27 * 10) + y36) (y45 - 99) ⟨by omega, by omega⟩ ⟨by omega, by omega⟩ ⟨by omega, by omega⟩ (by omega)) lm_X11_229 li_X11_pose (by decide) (by decide) rfl rfl rfl (by decide) rfl rfl (Nat.le_of_ble_eq_true rfl) ⟨Nat.le_refl _, Or.inl rfl⟩ dX11_drawAnswer_88 ⟨rfl, hV47⟩ (fun r51 V52 hp53 => ?_)
      obtain ⟨rfl, hV54, hF55⟩ := hp53
      change pm_J X 91 [(9, (0, ((y27 * 10) + y36))), (8, (0, (((a2 * 100) + (y8 * 10)) + y18))), (7, (0, (y45 - 99))), (6, (0, y36)), (5, (0, y27)), (4, (0, y18)), (3, (0, y8)), (0, (3, 0)), (1, (0, a1)), (2, (0, a2))] [] 118 V52
      have hF56 := pm_fr.tr hF49 hF55 (by decide)
      have e57 : V52 45 0 = y2 := by rw [hF55 45 (by decide)]; exact e50
      refine pm_aload_n hC 7 (by decide) dX11_drawAnswer_91 rfl ?_
      have e58 : V52 0 5 = 73 := hV54.one 0 5 (by decide) (by decide) rfl
      refine pm_getf (v := 73) hC 0 fl_X11_75 rfl rfl (by decide) rfl e58 dX11_drawAnswer_92 ?_
      refine pm_iload_n hC 8 dX11_drawAnswer_95 rfl ?_
      refine pm_callV (ci := 10) (as := [(0, a1)]) (st := []) hC 73 (c_X10_weigh_73 a1 ⟨by omega, by omega⟩) lm_X11_294 li_X10_weigh (by decide) (by decide) rfl rfl rfl (by decide) rfl rfl (Nat.le_of_ble_eq_true rfl) ⟨Nat.le_refl _, Or.inl rfl⟩ dX11_drawAnswer_96 ⟨rfl, hV54⟩ (fun r59 V60 hp61 => ?_)
      obtain ⟨rfl, hV62, hF63⟩ := hp61
      change pm_J X 99 [(9, (0, ((y27 * 10) + y36))), (8, (0, (((a2 * 100) + (y8 * 10)) + y18))), (7, (0, (y45 - 99))), (6, (0, y36)), (5, (0, y27)), (4, (0, y18)), (3, (0, y8)), (0, (3, 0)), (1, (0, a1)), (2, (0, a2))] [] 118 V60
      have hF64 := pm_fr.tr hF56 hF63 (by decide)
      have e65 : V60 45 0 = y2 := by rw [hF63 45 (by decide)]; exact e57
      have e66 : V60 0 5 = 73 := by rw [hF63 0 (by decide)]; exact e58
      refine pm_aload_n hC 7 (by decide) dX11_drawAnswer_99 rfl ?_
      refine pm_getf (v := 73) hC 0 fl_X11_75 rfl rfl (by decide) rfl e66 dX11_drawAnswer_100 ?_
      refine pm_aload_n hC 7 (by decide) dX11_drawAnswer_103 rfl ?_
      refine pm_aload_n hC 7 (by decide) dX11_drawAnswer_104 rfl ?_
      refine pm_getf (v := 73) hC 0 fl_X11_75 rfl rfl (by decide) rfl e66 dX11_drawAnswer_105 ?_
      obtain ⟨y67, e68⟩ : ∃ y, V60 73 14 = y := ⟨_, rfl⟩
      have b69 := hV62.get 73 14 (lo := (-9223372036854775808)) (hi := 9223372036854775807) (by decide) (by decide) rfl
      rw [e68] at b69
      refine pm_getf (v := y67) hC 73 fl_X11_205 rfl rfl (by decide) rfl e68 dX11_drawAnswer_108 ?_
      refine pm_callV (ci := 11) (as := [(1, y67)]) (st := [(3, 73)]) hC 0 (c_X11_lotBelow_0 y67 ⟨by omega, by omega⟩) lm_X11_392 li_X11_lotBelow (by decide) (by decide) rfl rfl rfl (by decide) rfl rfl (Nat.le_of_ble_eq_true rfl) ⟨Nat.le_refl _, Or.inl rfl⟩ dX11_drawAnswer_111 ⟨rfl, hV62⟩ (fun r70 V71 hp72 => ?_)
      obtain ⟨y73, rfl, b74, hV75, hF76⟩ := hp72
      change pm_J X 114 [(9, (0, ((y27 * 10) + y36))), (8, (0, (((a2 * 100) + (y8 * 10)) + y18))), (7, (0, (y45 - 99))), (6, (0, y36)), (5, (0, y27)), (4, (0, y18)), (3, (0, y8)), (0, (3, 0)), (1, (0, a1)), (2, (0, a2))] [(0, y73), (3, 73)] 118 V71
      have hF77 := pm_fr.tr hF64 hF76 (by decide)
      have e78 : V71 45 0 = y2 := by rw [hF76 45 (by decide)]; exact e65
      have e79 : V71 73 14 = y67 := by rw [hF76 73 (by decide)]; exact e68
      refine pm_i2l hC ⟨by omega, by omega⟩ dX11_drawAnswer_114 ?_
      refine pm_callV (ci := 10) (as := [(1, y73)]) (st := []) hC 73 (c_X10_saidAt_73 y73 ⟨by omega, by omega⟩) lm_X11_400 li_X10_saidAt (by decide) (by decide) rfl rfl rfl (by decide) rfl rfl (Nat.le_of_ble_eq_true rfl) ⟨Nat.le_refl _, Or.inl rfl⟩ dX11_drawAnswer_115 ⟨rfl, hV75⟩ (fun r80 V81 hp82 => ?_)
      obtain ⟨y83, rfl, b84, rfl⟩ := hp82
      change pm_J X 118 [(9, (0, ((y27 * 10) + y36))), (8, (0, (((a2 * 100) + (y8 * 10)) + y18))), (7, (0, (y45 - 99))), (6, (0, y36)), (5, (0, y27)), (4, (0, y18)), (3, (0, y8)), (0, (3, 0)), (1, (0, a1)), (2, (0, a2))] [(0, y83)] 118 V71
      refine pm_istore (lv' := [(10, (0, y83)), (9, (0, ((y27 * 10) + y36))), (8, (0, (((a2 * 100) + (y8 * 10)) + y18))), (7, (0, (y45 - 99))), (6, (0, y36)), (5, (0, y27)), (4, (0, y18)), (3, (0, y8)), (0, (3, 0)), (1, (0, a1)), (2, (0, a2))]) hC dX11_drawAnswer_118 (by decide) rfl ?_
      refine pm_aload_n hC 8 (by decide) dX11_drawAnswer_120 rfl ?_
      refine pm_ldc2 (v := 1000) hC 4082 dX11_drawAnswer_121 (by decide +kernel) ?_
      refine pm_callV (ci := 11) (as := [(1, 1000)]) (st := []) hC 0 (c_X11_lotBelow_0 1000 ⟨by decide, by decide⟩) lm_X11_392 li_X11_lotBelow (by decide) (by decide) rfl rfl rfl (by decide) rfl rfl (Nat.le_of_ble_eq_true rfl) ⟨Nat.le_refl _, Or.inl rfl⟩ dX11_drawAnswer_124 ⟨rfl, hV75⟩ (fun r85 V86 hp87 => ?_)
      obtain ⟨y88, rfl, b89, hV90, hF91⟩ := hp87
      change pm_J X 127 [(10, (0, y83)), (9, (0, ((y27 * 10) + y36))), (8, (0, (((a2 * 100) + (y8 * 10)) + y18))), (7, (0, (y45 - 99))), (6, (0, y36)), (5, (0, y27)), (4, (0, y18)), (3, (0, y8)), (0, (3, 0)), (1, (0, a1)), (2, (0, a2))] [(0, y88)] 118 V86
      have hF92 := pm_fr.tr hF77 hF91 (by decide)
      have e93 : V86 45 0 = y2 := by rw [hF91 45 (by decide)]; exact e78
      have e94 : V86 73 14 = y67 := by rw [hF91 73 (by decide)]; exact e79
      refine pm_aload_n hC 8 (by decide) dX11_drawAnswer_127 rfl ?_
      have e95 : V86 0 5 = 73 := hV90.one 0 5 (by decide) (by decide) rfl
      refine pm_getf (v := 73) hC 0 fl_X11_75 rfl rfl (by decide) rfl e95 dX11_drawAnswer_128 ?_
      refine pm_callV (ci := 10) (as := []) (st := [(0, y88)]) hC 73 c_X10_chanceNoticed_73 lm_X11_233 li_X10_chanceNoticed (by decide) (by decide) rfl rfl rfl (by decide) rfl rfl (Nat.le_of_ble_eq_true rfl) ⟨Nat.le_refl _, Or.inl rfl⟩ dX11_drawAnswer_131 ⟨rfl, hV90⟩ (fun r96 V97 hp98 => ?_)
      obtain ⟨y99, rfl, b100, rfl⟩ := hp98
      change pm_J X 134 [(10, (0, y83)), (9, (0, ((y27 * 10) + y36))), (8, (0, (((a2 * 100) + (y8 * 10)) + y18))), (7, (0, (y45 - 99))), (6, (0, y36)), (5, (0, y27)), (4, (0, y18)), (3, (0, y8)), (0, (3, 0)), (1, (0, a1)), (2, (0, a2))] [(0, y99), (0, y88)] 118 V86
      refine pm_icmp_ge (tgt := 141) hC ⟨by omega, by omega⟩ ⟨by omega, by omega⟩ dX11_drawAnswer_134 (by decide) (fun c101 => ?_) (fun c101 => ?_)
      · skip
        refine pm_iconst (v := 0) hC dX11_drawAnswer_141 ?_
        refine pm_istore (lv' := [(11, (0, 0)), (10, (0, y83)), (9, (0, ((y27 * 10) + y36))), (8, (0, (((a2 * 100) + (y8 * 10)) + y18))), (7, (0, (y45 - 99))), (6, (0, y36)), (5, (0, y27)), (4, (0, y18)), (3, (0, y8)), (0, (3, 0)), (1, (0, a1)), (2, (0, a2))]) hC dX11_drawAnswer_142 (by decide) rfl ?_
        refine pm_aload_n hC 9 (by decide) dX11_drawAnswer_144 rfl ?_
        have e102 : V86 0 3 = 4 := hV90.one 0 3 (by decide) (by decide) rfl
        refine pm_getf (v := 4) hC 0 fl_X11_24 rfl rfl (by decide) rfl e102 dX11_drawAnswer_145 ?_
        refine pm_iload hC 3 dX11_drawAnswer_148 rfl ?_
        refine pm_iload hC 2 dX11_drawAnswer_150 rfl ?_
        refine pm_iload hC 4 dX11_drawAnswer_152 rfl ?_
        refine pm_iload hC 1 dX11_drawAnswer_154 rfl ?_
        refine pm_iload hC 0 dX11_drawAnswer_156 rfl ?_
        refine pm_callV (ci := 7) (as := [(0, (((a2 * 100) + (y8 * 10)) + y18)), (0, ((y27 * 10) + y36)), (0, (y45 - 99)), (0, y83), (0, 0)]) (st := []) hC 4 (c_X7_addAnswer_4 (((a2 * 100) + (y8 * 10)) + y18) ((y27 * 10) + y36) (y45 - 99) y83 0 ⟨by omega, by omega⟩ ⟨by omega, by omega⟩ ⟨by omega, by omega⟩ ⟨by omega, by omega⟩ ⟨by decide, by decide⟩ (by omega)) lm_X11_236 li_X7_addAnswer (by decide) (by decide) rfl rfl rfl (by decide) rfl rfl (Nat.le_of_ble_eq_true rfl) ⟨Nat.le_refl _, Or.inl rfl⟩ dX11_drawAnswer_158 ⟨rfl, hV90⟩ (fun r103 V104 hp105 => ?_)
        obtain ⟨rfl, hV106, hF107⟩ := hp105
        change pm_J X 161 [(11, (0, 0)), (10, (0, y83)), (9, (0, ((y27 * 10) + y36))), (8, (0, (((a2 * 100) + (y8 * 10)) + y18))), (7, (0, (y45 - 99))), (6, (0, y36)), (5, (0, y27)), (4, (0, y18)), (3, (0, y8)), (0, (3, 0)), (1, (0, a1)), (2, (0, a2))] [] 118 V104
        have hF108 := pm_fr.tr hF92 hF107 (by decide)
        have e109 : V104 45 0 = y2 := by rw [hF107 45 (by decide)]; exact e93
        have e110 : V104 73 14 = y67 := by rw [hF107 73 (by decide)]; exact e94
        have e111 : V104 0 5 = 73 := by rw [hF107 0 (by decide)]; exact e95
        have e112 : V104 0 3 = 4 := by rw [hF107 0 (by decide)]; exact e102
        exact pm_vret hC hR ⟨rfl, hV106, hF108⟩ dX11_drawAnswer_161
      · skip
        refine pm_iconst (v := 1) hC dX11_drawAnswer_137 ?_
        refine pm_goto (tgt := 142) hC dX11_drawAnswer_138 (by decide) ?_
        refine pm_istore (lv' := [(11, (0, 1)), (10, (0, y83)), (9, (0, ((y27 * 10) + y36))), (8, (0, (((a2 * 100) + (y8 * 10)) + y18))), (7, (0, (y45 - 99))), (6, (0, y36)), (5, (0, y27)), (4, (0, y18)), (3, (0, y8)), (0, (3, 0)), (1, (0, a1)), (2, (0, a2))]) hC dX11_drawAnswer_142 (by decide) rfl ?_
        refine pm_aload_n hC 9 (by decide) dX11_drawAnswer_144 rfl ?_
        have e113 : V86 0 3 = 4 := hV90.one 0 3 (by decide) (by decide) rfl
        refine pm_getf (v := 4) hC 0 fl_X11_24 rfl rfl (by decide) rfl e113 dX11_drawAnswer_145 ?_
        refine pm_iload hC 3 dX11_drawAnswer_148 rfl ?_
        refine pm_iload hC 2 dX11_drawAnswer_150 rfl ?_
        refine pm_iload hC 4 dX11_drawAnswer_152 rfl ?_
        refine pm_iload hC 1 dX11_drawAnswer_154 rfl ?_
        refine pm_iload hC 0 dX11_drawAnswer_156 rfl ?_
        refine pm_callV (ci := 7) (as := [(0, (((a2 * 100) + (y8 * 10)) + y18)), (0, ((y27 * 10) + y36)), (0, (y45 - 99)), (0, y83), (0, 1)]) (st := []) hC 4 (c_X7_addAnswer_4 (((a2 * 100) + (y8 * 10)) + y18) ((y27 * 10) + y36) (y45 - 99) y83 1 ⟨by omega, by omega⟩ ⟨by omega, by omega⟩ ⟨by omega, by omega⟩ ⟨by omega, by omega⟩ ⟨by decide, by decide⟩ (by omega)) lm_X11_236 li_X7_addAnswer (by decide) (by decide) rfl rfl rfl (by decide) rfl rfl (Nat.le_of_ble_eq_true rfl) ⟨Nat.le_refl _, Or.inl rfl⟩ dX11_drawAnswer_158 ⟨rfl, hV90⟩ (fun r114 V115 hp116 => ?_)
        obtain ⟨rfl, hV117, hF118⟩ := hp116
        change pm_J X 161 [(11, (0, 1)), (10, (0, y83)), (9, (0, ((y27 * 10) + y36))), (8, (0, (((a2 * 100) + (y8 * 10)) + y18))), (7, (0, (y45 - 99))), (6, (0, y36)), (5, (0, y27)), (4, (0, y18)), (3, (0, y8)), (0, (3, 0)), (1, (0, a1)), (2, (0, a2))] [] 118 V115
        have hF119 := pm_fr.tr hF92 hF118 (by decide)
        have e120 : V115 45 0 = y2 := by rw [hF118 45 (by decide)]; exact e93
        have e121 : V115 73 14 = y67 := by rw [hF118 73 (by decide)]; exact e94
        have e122 : V115 0 5 = 73 := by rw [hF118 0 (by decide)]; exact e95
        have e123 : V115 0 3 = 4 := by rw [hF118 0 (by decide)]; exact e113
        exact pm_vret hC hR ⟨rfl, hV117, hF119⟩ dX11_drawAnswer_161
    · skip
      refine pm_getf (v := 51) hC 0 fl_X11_35 rfl rfl (by decide) rfl e14 dX11_drawAnswer_15 ?_
      obtain ⟨y124, e125⟩ : ∃ y, V6 51 0 = y := ⟨_, rfl⟩
      have b126 := hV10.get 51 0 (lo := 0) (hi := 9) (by decide) (by decide) rfl
      rw [e125] at b126
      refine pm_getf (v := y124) hC 51 fl_X11_136 rfl rfl (by decide) rfl e125 dX11_drawAnswer_18 ?_
      refine pm_i2l hC ⟨by omega, by omega⟩ dX11_drawAnswer_21 ?_
      refine pm_callV (ci := 11) (as := [(1, y124)]) (st := []) hC 0 (c_X11_lotBelow_0 y124 ⟨by omega, by omega⟩) lm_X11_392 li_X11_lotBelow (by decide) (by decide) rfl rfl rfl (by decide) rfl rfl (Nat.le_of_ble_eq_true rfl) ⟨Nat.le_refl _, Or.inl rfl⟩ dX11_drawAnswer_22 ⟨rfl, hV10⟩ (fun r127 V128 hp129 => ?_)
      obtain ⟨y130, rfl, b131, hV132, hF133⟩ := hp129
      change pm_J X 25 [(3, (0, y8)), (0, (3, 0)), (1, (0, a1)), (2, (0, a2))] [(0, y130)] 118 V128
      have hF134 := pm_fr.tr hF12 hF133 (by decide)
      have e135 : V128 45 0 = y2 := by rw [hF133 45 (by decide)]; exact e13
      have e136 : V128 51 0 = y124 := by rw [hF133 51 (by decide)]; exact e125
      refine pm_istore (lv' := [(4, (0, y130)), (3, (0, y8)), (0, (3, 0)), (1, (0, a1)), (2, (0, a2))]) hC dX11_drawAnswer_25 (by decide) rfl ?_
      refine pm_aload_n hC 2 (by decide) dX11_drawAnswer_27 rfl ?_
      refine pm_ldc2 (v := 10) hC 5097 dX11_drawAnswer_28 (by decide +kernel) ?_
      refine pm_callV (ci := 11) (as := [(1, 10)]) (st := []) hC 0 (c_X11_lotBelow_0 10 ⟨by decide, by decide⟩) lm_X11_392 li_X11_lotBelow (by decide) (by decide) rfl rfl rfl (by decide) rfl rfl (Nat.le_of_ble_eq_true rfl) ⟨Nat.le_refl _, Or.inl rfl⟩ dX11_drawAnswer_31 ⟨rfl, hV132⟩ (fun r137 V138 hp139 => ?_)
      obtain ⟨y140, rfl, b141, hV142, hF143⟩ := hp139
      change pm_J X 34 [(4, (0, y130)), (3, (0, y8)), (0, (3, 0)), (1, (0, a1)), (2, (0, a2))] [(0, y140)] 118 V138
      have hF144 := pm_fr.tr hF134 hF143 (by decide)
      have e145 : V138 45 0 = y2 := by rw [hF143 45 (by decide)]; exact e135
      have e146 : V138 51 0 = y124 := by rw [hF143 51 (by decide)]; exact e136
      refine pm_istore (lv' := [(5, (0, y140)), (4, (0, y130)), (3, (0, y8)), (0, (3, 0)), (1, (0, a1)), (2, (0, a2))]) hC dX11_drawAnswer_34 (by decide) rfl ?_
      refine pm_aload_n hC 3 (by decide) dX11_drawAnswer_36 rfl ?_
      refine pm_ldc2 (v := 10) hC 5097 dX11_drawAnswer_37 (by decide +kernel) ?_
      refine pm_callV (ci := 11) (as := [(1, 10)]) (st := []) hC 0 (c_X11_lotBelow_0 10 ⟨by decide, by decide⟩) lm_X11_392 li_X11_lotBelow (by decide) (by decide) rfl rfl rfl (by decide) rfl rfl (Nat.le_of_ble_eq_true rfl) ⟨Nat.le_refl _, Or.inl rfl⟩ dX11_drawAnswer_40 ⟨rfl, hV142⟩ (fun r147 V148 hp149 => ?_)
      obtain ⟨y150, rfl, b151, hV152, hF153⟩ := hp149
      change pm_J X 43 [(5, (0, y140)), (4, (0, y130)), (3, (0, y8)), (0, (3, 0)), (1, (0, a1)), (2, (0, a2))] [(0, y150)] 118 V148
      have hF154 := pm_fr.tr hF144 hF153 (by decide)
      have e155 : V148 45 0 = y2 := by rw [hF153 45 (by decide)]; exact e145
      have e156 : V148 51 0 = y124 := by rw [hF153 51 (by decide)]; exact e146
      refine pm_istore (lv' := [(6, (0, y150)), (5, (0, y140)), (4, (0, y130)), (3, (0, y8)), (0, (3, 0)), (1, (0, a1)), (2, (0, a2))]) hC dX11_drawAnswer_43 (by decide) rfl ?_
      refine pm_aload_n hC 4 (by decide) dX11_drawAnswer_45 rfl ?_
      refine pm_ldc2 (v := 199) hC 5098 dX11_drawAnswer_46 (by decide +kernel) ?_
      refine pm_callV (ci := 11) (as := [(1, 199)]) (st := []) hC 0 (c_X11_lotBelow_0 199 ⟨by decide, by decide⟩) lm_X11_392 li_X11_lotBelow (by decide) (by decide) rfl rfl rfl (by decide) rfl rfl (Nat.le_of_ble_eq_true rfl) ⟨Nat.le_refl _, Or.inl rfl⟩ dX11_drawAnswer_49 ⟨rfl, hV152⟩ (fun r157 V158 hp159 => ?_)
      obtain ⟨y160, rfl, b161, hV162, hF163⟩ := hp159
      change pm_J X 52 [(6, (0, y150)), (5, (0, y140)), (4, (0, y130)), (3, (0, y8)), (0, (3, 0)), (1, (0, a1)), (2, (0, a2))] [(0, y160)] 118 V158
      have hF164 := pm_fr.tr hF154 hF163 (by decide)
      have e165 : V158 45 0 = y2 := by rw [hF163 45 (by decide)]; exact e155
      have e166 : V158 51 0 = y124 := by rw [hF163 51 (by decide)]; exact e156
      refine pm_bipush (v := 99) hC dX11_drawAnswer_52 (by decide) ?_
      refine pm_isub hC dX11_drawAnswer_54 ?_
      refine pm_istore (lv' := [(7, (0, (y160 - 99))), (6, (0, y150)), (5, (0, y140)), (4, (0, y130)), (3, (0, y8)), (0, (3, 0)), (1, (0, a1)), (2, (0, a2))]) hC dX11_drawAnswer_55 (by decide) rfl ?_
      refine pm_iload_n hC 7 dX11_drawAnswer_57 rfl ?_
      refine pm_bipush (v := 100) hC dX11_drawAnswer_58 (by decide) ?_
      refine pm_imul hC dX11_drawAnswer_60 ?_
      refine pm_iload_n hC 4 dX11_drawAnswer_61 rfl ?_
      refine pm_bipush (v := 10) hC dX11_drawAnswer_62 (by decide) ?_
      refine pm_imul hC dX11_drawAnswer_64 ?_
      refine pm_iadd hC dX11_drawAnswer_65 ?_
      refine pm_iload hC 3 dX11_drawAnswer_66 rfl ?_
      refine pm_iadd hC dX11_drawAnswer_68 ?_
      refine pm_istore (lv' := [(8, (0, (((a2 * 100) + (y8 * 10)) + y130))), (7, (0, (y160 - 99))), (6, (0, y150)), (5, (0, y140)), (4, (0, y130)), (3, (0, y8)), (0, (3, 0)), (1, (0, a1)), (2, (0, a2))]) hC dX11_drawAnswer_69 (by decide) rfl ?_
      refine pm_iload hC 3 dX11_drawAnswer_71 rfl ?_
      refine pm_bipush (v := 10) hC dX11_drawAnswer_73 (by decide) ?_
      refine pm_imul hC dX11_drawAnswer_75 ?_
      refine pm_iload hC 2 dX11_drawAnswer_76 rfl ?_
      refine pm_iadd hC dX11_drawAnswer_78 ?_
      refine pm_istore (lv' := [(9, (0, ((y140 * 10) + y150))), (8, (0, (((a2 * 100) + (y8 * 10)) + y130))), (7, (0, (y160 - 99))), (6, (0, y150)), (5, (0, y140)), (4, (0, y130)), (3, (0, y8)), (0, (3, 0)), (1, (0, a1)), (2, (0, a2))]) hC dX11_drawAnswer_79 (by decide) rfl ?_
      refine pm_aload_n hC 7 (by decide) dX11_drawAnswer_81 rfl ?_
      refine pm_iload hC 1 dX11_drawAnswer_82 rfl ?_
      refine pm_iload hC 0 dX11_drawAnswer_84 rfl ?_
      refine pm_iload hC 2 dX11_drawAnswer_86 rfl ?_
      refine pm_callV (ci := 11) (as := [(0, (((a2 * 100) + (y8 * 10)) + y130)), (0, ((y140 * 10) + y150)), (0, (y160 - 99))]) (st := []) hC 0 (c_X11_pose_0 (((a2 * 100) + (y8 * 10)) + y130) ((y140 * 10) + y150) (y160 - 99) ⟨by omega, by omega⟩ ⟨by omega, by omega⟩ ⟨by omega, by omega⟩ (by omega)) lm_X11_229 li_X11_pose (by decide) (by decide) rfl rfl rfl (by decide) rfl rfl (Nat.le_of_ble_eq_true rfl) ⟨Nat.le_refl _, Or.inl rfl⟩ dX11_drawAnswer_88 ⟨rfl, hV162⟩ (fun r167 V168 hp169 => ?_)
      obtain ⟨rfl, hV170, hF171⟩ := hp169
      change pm_J X 91 [(9, (0, ((y140 * 10) + y150))), (8, (0, (((a2 * 100) + (y8 * 10)) + y130))), (7, (0, (y160 - 99))), (6, (0, y150)), (5, (0, y140)), (4, (0, y130)), (3, (0, y8)), (0, (3, 0)), (1, (0, a1)), (2, (0, a2))] [] 118 V168
      have hF172 := pm_fr.tr hF164 hF171 (by decide)
      have e173 : V168 45 0 = y2 := by rw [hF171 45 (by decide)]; exact e165
      have e174 : V168 51 0 = y124 := by rw [hF171 51 (by decide)]; exact e166
      refine pm_aload_n hC 7 (by decide) dX11_drawAnswer_91 rfl ?_
      have e175 : V168 0 5 = 73 := hV170.one 0 5 (by decide) (by decide) rfl
      refine pm_getf (v := 73) hC 0 fl_X11_75 rfl rfl (by decide) rfl e175 dX11_drawAnswer_92 ?_
      refine pm_iload_n hC 8 dX11_drawAnswer_95 rfl ?_
      refine pm_callV (ci := 10) (as := [(0, a1)]) (st := []) hC 73 (c_X10_weigh_73 a1 ⟨by omega, by omega⟩) lm_X11_294 li_X10_weigh (by decide) (by decide) rfl rfl rfl (by decide) rfl rfl (Nat.le_of_ble_eq_true rfl) ⟨Nat.le_refl _, Or.inl rfl⟩ dX11_drawAnswer_96 ⟨rfl, hV170⟩ (fun r176 V177 hp178 => ?_)
      obtain ⟨rfl, hV179, hF180⟩ := hp178
      change pm_J X 99 [(9, (0, ((y140 * 10) + y150))), (8, (0, (((a2 * 100) + (y8 * 10)) + y130))), (7, (0, (y160 - 99))), (6, (0, y150)), (5, (0, y140)), (4, (0, y130)), (3, (0, y8)), (0, (3, 0)), (1, (0, a1)), (2, (0, a2))] [] 118 V177
      have hF181 := pm_fr.tr hF172 hF180 (by decide)
      have e182 : V177 45 0 = y2 := by rw [hF180 45 (by decide)]; exact e173
      have e183 : V177 51 0 = y124 := by rw [hF180 51 (by decide)]; exact e174
      have e184 : V177 0 5 = 73 := by rw [hF180 0 (by decide)]; exact e175
      refine pm_aload_n hC 7 (by decide) dX11_drawAnswer_99 rfl ?_
      refine pm_getf (v := 73) hC 0 fl_X11_75 rfl rfl (by decide) rfl e184 dX11_drawAnswer_100 ?_
      refine pm_aload_n hC 7 (by decide) dX11_drawAnswer_103 rfl ?_
      refine pm_aload_n hC 7 (by decide) dX11_drawAnswer_104 rfl ?_
      refine pm_getf (v := 73) hC 0 fl_X11_75 rfl rfl (by decide) rfl e184 dX11_drawAnswer_105 ?_
      obtain ⟨y185, e186⟩ : ∃ y, V177 73 14 = y := ⟨_, rfl⟩
      have b187 := hV179.get 73 14 (lo := (-9223372036854775808)) (hi := 9223372036854775807) (by decide) (by decide) rfl
      rw [e186] at b187
      refine pm_getf (v := y185) hC 73 fl_X11_205 rfl rfl (by decide) rfl e186 dX11_drawAnswer_108 ?_
      refine pm_callV (ci := 11) (as := [(1, y185)]) (st := [(3, 73)]) hC 0 (c_X11_lotBelow_0 y185 ⟨by omega, by omega⟩) lm_X11_392 li_X11_lotBelow (by decide) (by decide) rfl rfl rfl (by decide) rfl rfl (Nat.le_of_ble_eq_true rfl) ⟨Nat.le_refl _, Or.inl rfl⟩ dX11_drawAnswer_111 ⟨rfl, hV179⟩ (fun r188 V189 hp190 => ?_)
      obtain ⟨y191, rfl, b192, hV193, hF194⟩ := hp190
      change pm_J X 114 [(9, (0, ((y140 * 10) + y150))), (8, (0, (((a2 * 100) + (y8 * 10)) + y130))), (7, (0, (y160 - 99))), (6, (0, y150)), (5, (0, y140)), (4, (0, y130)), (3, (0, y8)), (0, (3, 0)), (1, (0, a1)), (2, (0, a2))] [(0, y191), (3, 73)] 118 V189
      have hF195 := pm_fr.tr hF181 hF194 (by decide)
      have e196 : V189 45 0 = y2 := by rw [hF194 45 (by decide)]; exact e182
      have e197 : V189 51 0 = y124 := by rw [hF194 51 (by decide)]; exact e183
      have e198 : V189 73 14 = y185 := by rw [hF194 73 (by decide)]; exact e186
      refine pm_i2l hC ⟨by omega, by omega⟩ dX11_drawAnswer_114 ?_
      refine pm_callV (ci := 10) (as := [(1, y191)]) (st := []) hC 73 (c_X10_saidAt_73 y191 ⟨by omega, by omega⟩) lm_X11_400 li_X10_saidAt (by decide) (by decide) rfl rfl rfl (by decide) rfl rfl (Nat.le_of_ble_eq_true rfl) ⟨Nat.le_refl _, Or.inl rfl⟩ dX11_drawAnswer_115 ⟨rfl, hV193⟩ (fun r199 V200 hp201 => ?_)
      obtain ⟨y202, rfl, b203, rfl⟩ := hp201
      change pm_J X 118 [(9, (0, ((y140 * 10) + y150))), (8, (0, (((a2 * 100) + (y8 * 10)) + y130))), (7, (0, (y160 - 99))), (6, (0, y150)), (5, (0, y140)), (4, (0, y130)), (3, (0, y8)), (0, (3, 0)), (1, (0, a1)), (2, (0, a2))] [(0, y202)] 118 V189
      refine pm_istore (lv' := [(10, (0, y202)), (9, (0, ((y140 * 10) + y150))), (8, (0, (((a2 * 100) + (y8 * 10)) + y130))), (7, (0, (y160 - 99))), (6, (0, y150)), (5, (0, y140)), (4, (0, y130)), (3, (0, y8)), (0, (3, 0)), (1, (0, a1)), (2, (0, a2))]) hC dX11_drawAnswer_118 (by decide) rfl ?_
      refine pm_aload_n hC 8 (by decide) dX11_drawAnswer_120 rfl ?_
      refine pm_ldc2 (v := 1000) hC 4082 dX11_drawAnswer_121 (by decide +kernel) ?_
      refine pm_callV (ci := 11) (as := [(1, 1000)]) (st := []) hC 0 (c_X11_lotBelow_0 1000 ⟨by decide, by decide⟩) lm_X11_392 li_X11_lotBelow (by decide) (by decide) rfl rfl rfl (by decide) rfl rfl (Nat.le_of_ble_eq_true rfl) ⟨Nat.le_refl _, Or.inl rfl⟩ dX11_drawAnswer_124 ⟨rfl, hV193⟩ (fun r204 V205 hp206 => ?_)
      obtain ⟨y207, rfl, b208, hV209, hF210⟩ := hp206
      change pm_J X 127 [(10, (0, y202)), (9, (0, ((y140 * 10) + y150))), (8, (0, (((a2 * 100) + (y8 * 10)) + y130))), (7, (0, (y160 - 99))), (6, (0, y150)), (5, (0, y140)), (4, (0, y130)), (3, (0, y8)), (0, (3, 0)), (1, (0, a1)), (2, (0, a2))] [(0, y207)] 118 V205
      have hF211 := pm_fr.tr hF195 hF210 (by decide)
      have e212 : V205 45 0 = y2 := by rw [hF210 45 (by decide)]; exact e196
      have e213 : V205 51 0 = y124 := by rw [hF210 51 (by decide)]; exact e197
      have e214 : V205 73 14 = y185 := by rw [hF210 73 (by decide)]; exact e198
      refine pm_aload_n hC 8 (by decide) dX11_drawAnswer_127 rfl ?_
      have e215 : V205 0 5 = 73 := hV209.one 0 5 (by decide) (by decide) rfl
      refine pm_getf (v := 73) hC 0 fl_X11_75 rfl rfl (by decide) rfl e215 dX11_drawAnswer_128 ?_
      refine pm_callV (ci := 10) (as := []) (st := [(0, y207)]) hC 73 c_X10_chanceNoticed_73 lm_X11_233 li_X10_chanceNoticed (by decide) (by decide) rfl rfl rfl (by decide) rfl rfl (Nat.le_of_ble_eq_true rfl) ⟨Nat.le_refl _, Or.inl rfl⟩ dX11_drawAnswer_131 ⟨rfl, hV209⟩ (fun r216 V217 hp218 => ?_)
      obtain ⟨y219, rfl, b220, rfl⟩ := hp218
      change pm_J X 134 [(10, (0, y202)), (9, (0, ((y140 * 10) + y150))), (8, (0, (((a2 * 100) + (y8 * 10)) + y130))), (7, (0, (y160 - 99))), (6, (0, y150)), (5, (0, y140)), (4, (0, y130)), (3, (0, y8)), (0, (3, 0)), (1, (0, a1)), (2, (0, a2))] [(0, y219), (0, y207)] 118 V205
      refine pm_icmp_ge (tgt := 141) hC ⟨by omega, by omega⟩ ⟨by omega, by omega⟩ dX11_drawAnswer_134 (by decide) (fun c221 => ?_) (fun c221 => ?_)
      · skip
        refine pm_iconst (v := 0) hC dX11_drawAnswer_141 ?_
        refine pm_istore (lv' := [(11, (0, 0)), (10, (0, y202)), (9, (0, ((y140 * 10) + y150))), (8, (0, (((a2 * 100) + (y8 * 10)) + y130))), (7, (0, (y160 - 99))), (6, (0, y150)), (5, (0, y140)), (4, (0, y130)), (3, (0, y8)), (0, (3, 0)), (1, (0, a1)), (2, (0, a2))]) hC dX11_drawAnswer_142 (by decide) rfl ?_
        refine pm_aload_n hC 9 (by decide) dX11_drawAnswer_144 rfl ?_
        have e222 : V205 0 3 = 4 := hV209.one 0 3 (by decide) (by decide) rfl
        refine pm_getf (v := 4) hC 0 fl_X11_24 rfl rfl (by decide) rfl e222 dX11_drawAnswer_145 ?_
        refine pm_iload hC 3 dX11_drawAnswer_148 rfl ?_
        refine pm_iload hC 2 dX11_drawAnswer_150 rfl ?_
        refine pm_iload hC 4 dX11_drawAnswer_152 rfl ?_
        refine pm_iload hC 1 dX11_drawAnswer_154 rfl ?_
        refine pm_iload hC 0 dX11_drawAnswer_156 rfl ?_
        refine pm_callV (ci := 7) (as := [(0, (((a2 * 100) + (y8 * 10)) + y130)), (0, ((y140 * 10) + y150)), (0, (y160 - 99)), (0, y202), (0, 0)]) (st := []) hC 4 (c_X7_addAnswer_4 (((a2 * 100) + (y8 * 10)) + y130) ((y140 * 10) + y150) (y160 - 99) y202 0 ⟨by omega, by omega⟩ ⟨by omega, by omega⟩ ⟨by omega, by omega⟩ ⟨by omega, by omega⟩ ⟨by decide, by decide⟩ (by omega)) lm_X11_236 li_X7_addAnswer (by decide) (by decide) rfl rfl rfl (by decide) rfl rfl (Nat.le_of_ble_eq_true rfl) ⟨Nat.le_refl _, Or.inl rfl⟩ dX11_drawAnswer_158 ⟨rfl, hV209⟩ (fun r223 V224 hp225 => ?_)
        obtain ⟨rfl, hV226, hF227⟩ := hp225
        change pm_J X 161 [(11, (0, 0)), (10, (0, y202)), (9, (0, ((y140 * 10) + y150))), (8, (0, (((a2 * 100) + (y8 * 10)) + y130))), (7, (0, (y160 - 99))), (6, (0, y150)), (5, (0, y140)), (4, (0, y130)), (3, (0, y8)), (0, (3, 0)), (1, (0, a1)), (2, (0, a2))] [] 118 V224
        have hF228 := pm_fr.tr hF211 hF227 (by decide)
        have e229 : V224 45 0 = y2 := by rw [hF227 45 (by decide)]; exact e212
        have e230 : V224 51 0 = y124 := by rw [hF227 51 (by decide)]; exact e213
        have e231 : V224 73 14 = y185 := by rw [hF227 73 (by decide)]; exact e214
        have e232 : V224 0 5 = 73 := by rw [hF227 0 (by decide)]; exact e215
        have e233 : V224 0 3 = 4 := by rw [hF227 0 (by decide)]; exact e222
        exact pm_vret hC hR ⟨rfl, hV226, hF228⟩ dX11_drawAnswer_161
      · skip
        refine pm_iconst (v := 1) hC dX11_drawAnswer_137 ?_
        refine pm_goto (tgt := 142) hC dX11_drawAnswer_138 (by decide) ?_
        refine pm_istore (lv' := [(11, (0, 1)), (10, (0, y202)), (9, (0, ((y140 * 10) + y150))), (8, (0, (((a2 * 100) + (y8 * 10)) + y130))), (7, (0, (y160 - 99))), (6, (0, y150)), (5, (0, y140)), (4, (0, y130)), (3, (0, y8)), (0, (3, 0)), (1, (0, a1)), (2, (0, a2))]) hC dX11_drawAnswer_142 (by decide) rfl ?_
        refine pm_aload_n hC 9 (by decide) dX11_drawAnswer_144 rfl ?_
        have e234 : V205 0 3 = 4 := hV209.one 0 3 (by decide) (by decide) rfl
        refine pm_getf (v := 4) hC 0 fl_X11_24 rfl rfl (by decide) rfl e234 dX11_drawAnswer_145 ?_
        refine pm_iload hC 3 dX11_drawAnswer_148 rfl ?_
        refine pm_iload hC 2 dX11_drawAnswer_150 rfl ?_
        refine pm_iload hC 4 dX11_drawAnswer_152 rfl ?_
        refine pm_iload hC 1 dX11_drawAnswer_154 rfl ?_
        refine pm_iload hC 0 dX11_drawAnswer_156 rfl ?_
        refine pm_callV (ci := 7) (as := [(0, (((a2 * 100) + (y8 * 10)) + y130)), (0, ((y140 * 10) + y150)), (0, (y160 - 99)), (0, y202), (0, 1)]) (st := []) hC 4 (c_X7_addAnswer_4 (((a2 * 100) + (y8 * 10)) + y130) ((y140 * 10) + y150) (y160 - 99) y202 1 ⟨by omega, by omega⟩ ⟨by omega, by omega⟩ ⟨by omega, by omega⟩ ⟨by omega, by omega⟩ ⟨by decide, by decide⟩ (by omega)) lm_X11_236 li_X7_addAnswer (by decide) (by decide) rfl rfl rfl (by decide) rfl rfl (Nat.le_of_ble_eq_true rfl) ⟨Nat.le_refl _, Or.inl rfl⟩ dX11_drawAnswer_158 ⟨rfl, hV209⟩ (fun r235 V236 hp237 => ?_)
        obtain ⟨rfl, hV238, hF239⟩ := hp237
        change pm_J X 161 [(11, (0, 1)), (10, (0, y202)), (9, (0, ((y140 * 10) + y150))), (8, (0, (((a2 * 100) + (y8 * 10)) + y130))), (7, (0, (y160 - 99))), (6, (0, y150)), (5, (0, y140)), (4, (0, y130)), (3, (0, y8)), (0, (3, 0)), (1, (0, a1)), (2, (0, a2))] [] 118 V236
        have hF240 := pm_fr.tr hF211 hF239 (by decide)
        have e241 : V236 45 0 = y2 := by rw [hF239 45 (by decide)]; exact e212
        have e242 : V236 51 0 = y124 := by rw [hF239 51 (by decide)]; exact e213
        have e243 : V236 73 14 = y185 := by rw [hF239 73 (by decide)]; exact e214
        have e244 : V236 0 5 = 73 := by rw [hF239 0 (by decide)]; exact e215
        have e245 : V236 0 3 = 4 := by rw [hF239 0 (by decide)]; exact e234
        exact pm_vret hC hR ⟨rfl, hV238, hF240⟩ dX11_drawAnswer_161
  · skip
    refine pm_getf (v := 51) hC 0 fl_X11_35 rfl rfl (by decide) rfl e1 dX11_drawAnswer_2 ?_
    obtain ⟨y246, e247⟩ : ∃ y, V0 51 0 = y := ⟨_, rfl⟩
    have b248 := hV0.get 51 0 (lo := 0) (hi := 9) (by decide) (by decide) rfl
    rw [e247] at b248
    refine pm_getf (v := y246) hC 51 fl_X11_136 rfl rfl (by decide) rfl e247 dX11_drawAnswer_5 ?_
    refine pm_i2l hC ⟨by omega, by omega⟩ dX11_drawAnswer_8 ?_
    refine pm_callV (ci := 11) (as := [(1, y246)]) (st := []) hC 0 (c_X11_lotBelow_0 y246 ⟨by omega, by omega⟩) lm_X11_392 li_X11_lotBelow (by decide) (by decide) rfl rfl rfl (by decide) rfl rfl (Nat.le_of_ble_eq_true rfl) ⟨Nat.le_refl _, Or.inl rfl⟩ dX11_drawAnswer_9 ⟨rfl, hV0⟩ (fun r249 V250 hp251 => ?_)
    obtain ⟨y252, rfl, b253, hV254, hF255⟩ := hp251
    change pm_J X 12 [(0, (3, 0)), (1, (0, a1)), (2, (0, a2))] [(0, y252)] 118 V250
    have hF256 := pm_fr.tr (pm_fr.rf (ws := [0, 4, 9, 10, 11, 12, 13, 73, 74, 75, 76, 77]) (V := V0)) hF255 (by decide)
    have e257 : V250 51 0 = y246 := by rw [hF255 51 (by decide)]; exact e247
    refine pm_istore_n (lv' := [(3, (0, y252)), (0, (3, 0)), (1, (0, a1)), (2, (0, a2))]) hC dX11_drawAnswer_12 (by decide) rfl ?_
    refine pm_aload_n hC 1 (by decide) dX11_drawAnswer_13 rfl ?_
    refine pm_aload_n hC 1 (by decide) dX11_drawAnswer_14 rfl ?_
    rcases hV254.get2 0 8 (lo := 45) (hi := 51) (by decide) (by decide) rfl with e258 | e258
    · skip
      refine pm_getf (v := 45) hC 0 fl_X11_35 rfl rfl (by decide) rfl e258 dX11_drawAnswer_15 ?_
      obtain ⟨y259, e260⟩ : ∃ y, V250 45 0 = y := ⟨_, rfl⟩
      have b261 := hV254.get 45 0 (lo := 0) (hi := 9) (by decide) (by decide) rfl
      rw [e260] at b261
      refine pm_getf (v := y259) hC 45 fl_X11_136 rfl rfl (by decide) rfl e260 dX11_drawAnswer_18 ?_
      refine pm_i2l hC ⟨by omega, by omega⟩ dX11_drawAnswer_21 ?_
      refine pm_callV (ci := 11) (as := [(1, y259)]) (st := []) hC 0 (c_X11_lotBelow_0 y259 ⟨by omega, by omega⟩) lm_X11_392 li_X11_lotBelow (by decide) (by decide) rfl rfl rfl (by decide) rfl rfl (Nat.le_of_ble_eq_true rfl) ⟨Nat.le_refl _, Or.inl rfl⟩ dX11_drawAnswer_22 ⟨rfl, hV254⟩ (fun r262 V263 hp264 => ?_)
      obtain ⟨y265, rfl, b266, hV267, hF268⟩ := hp264
      change pm_J X 25 [(3, (0, y252)), (0, (3, 0)), (1, (0, a1)), (2, (0, a2))] [(0, y265)] 118 V263
      have hF269 := pm_fr.tr hF256 hF268 (by decide)
      have e270 : V263 51 0 = y246 := by rw [hF268 51 (by decide)]; exact e257
      have e271 : V263 45 0 = y259 := by rw [hF268 45 (by decide)]; exact e260
      refine pm_istore (lv' := [(4, (0, y265)), (3, (0, y252)), (0, (3, 0)), (1, (0, a1)), (2, (0, a2))]) hC dX11_drawAnswer_25 (by decide) rfl ?_
      refine pm_aload_n hC 2 (by decide) dX11_drawAnswer_27 rfl ?_
      refine pm_ldc2 (v := 10) hC 5097 dX11_drawAnswer_28 (by decide +kernel) ?_
      refine pm_callV (ci := 11) (as := [(1, 10)]) (st := []) hC 0 (c_X11_lotBelow_0 10 ⟨by decide, by decide⟩) lm_X11_392 li_X11_lotBelow (by decide) (by decide) rfl rfl rfl (by decide) rfl rfl (Nat.le_of_ble_eq_true rfl) ⟨Nat.le_refl _, Or.inl rfl⟩ dX11_drawAnswer_31 ⟨rfl, hV267⟩ (fun r272 V273 hp274 => ?_)
      obtain ⟨y275, rfl, b276, hV277, hF278⟩ := hp274
      change pm_J X 34 [(4, (0, y265)), (3, (0, y252)), (0, (3, 0)), (1, (0, a1)), (2, (0, a2))] [(0, y275)] 118 V273
      have hF279 := pm_fr.tr hF269 hF278 (by decide)
      have e280 : V273 51 0 = y246 := by rw [hF278 51 (by decide)]; exact e270
      have e281 : V273 45 0 = y259 := by rw [hF278 45 (by decide)]; exact e271
      refine pm_istore (lv' := [(5, (0, y275)), (4, (0, y265)), (3, (0, y252)), (0, (3, 0)), (1, (0, a1)), (2, (0, a2))]) hC dX11_drawAnswer_34 (by decide) rfl ?_
      refine pm_aload_n hC 3 (by decide) dX11_drawAnswer_36 rfl ?_
      refine pm_ldc2 (v := 10) hC 5097 dX11_drawAnswer_37 (by decide +kernel) ?_
      refine pm_callV (ci := 11) (as := [(1, 10)]) (st := []) hC 0 (c_X11_lotBelow_0 10 ⟨by decide, by decide⟩) lm_X11_392 li_X11_lotBelow (by decide) (by decide) rfl rfl rfl (by decide) rfl rfl (Nat.le_of_ble_eq_true rfl) ⟨Nat.le_refl _, Or.inl rfl⟩ dX11_drawAnswer_40 ⟨rfl, hV277⟩ (fun r282 V283 hp284 => ?_)
      obtain ⟨y285, rfl, b286, hV287, hF288⟩ := hp284
      change pm_J X 43 [(5, (0, y275)), (4, (0, y265)), (3, (0, y252)), (0, (3, 0)), (1, (0, a1)), (2, (0, a2))] [(0, y285)] 118 V283
      have hF289 := pm_fr.tr hF279 hF288 (by decide)
      have e290 : V283 51 0 = y246 := by rw [hF288 51 (by decide)]; exact e280
      have e291 : V283 45 0 = y259 := by rw [hF288 45 (by decide)]; exact e281
      refine pm_istore (lv' := [(6, (0, y285)), (5, (0, y275)), (4, (0, y265)), (3, (0, y252)), (0, (3, 0)), (1, (0, a1)), (2, (0, a2))]) hC dX11_drawAnswer_43 (by decide) rfl ?_
      refine pm_aload_n hC 4 (by decide) dX11_drawAnswer_45 rfl ?_
      refine pm_ldc2 (v := 199) hC 5098 dX11_drawAnswer_46 (by decide +kernel) ?_
      refine pm_callV (ci := 11) (as := [(1, 199)]) (st := []) hC 0 (c_X11_lotBelow_0 199 ⟨by decide, by decide⟩) lm_X11_392 li_X11_lotBelow (by decide) (by decide) rfl rfl rfl (by decide) rfl rfl (Nat.le_of_ble_eq_true rfl) ⟨Nat.le_refl _, Or.inl rfl⟩ dX11_drawAnswer_49 ⟨rfl, hV287⟩ (fun r292 V293 hp294 => ?_)
      obtain ⟨y295, rfl, b296, hV297, hF298⟩ := hp294
      change pm_J X 52 [(6, (0, y285)), (5, (0, y275)), (4, (0, y265)), (3, (0, y252)), (0, (3, 0)), (1, (0, a1)), (2, (0, a2))] [(0, y295)] 118 V293
      have hF299 := pm_fr.tr hF289 hF298 (by decide)
      have e300 : V293 51 0 = y246 := by rw [hF298 51 (by decide)]; exact e290
      have e301 : V293 45 0 = y259 := by rw [hF298 45 (by decide)]; exact e291
      refine pm_bipush (v := 99) hC dX11_drawAnswer_52 (by decide) ?_
      refine pm_isub hC dX11_drawAnswer_54 ?_
      refine pm_istore (lv' := [(7, (0, (y295 - 99))), (6, (0, y285)), (5, (0, y275)), (4, (0, y265)), (3, (0, y252)), (0, (3, 0)), (1, (0, a1)), (2, (0, a2))]) hC dX11_drawAnswer_55 (by decide) rfl ?_
      refine pm_iload_n hC 7 dX11_drawAnswer_57 rfl ?_
      refine pm_bipush (v := 100) hC dX11_drawAnswer_58 (by decide) ?_
      refine pm_imul hC dX11_drawAnswer_60 ?_
      refine pm_iload_n hC 4 dX11_drawAnswer_61 rfl ?_
      refine pm_bipush (v := 10) hC dX11_drawAnswer_62 (by decide) ?_
      refine pm_imul hC dX11_drawAnswer_64 ?_
      refine pm_iadd hC dX11_drawAnswer_65 ?_
      refine pm_iload hC 3 dX11_drawAnswer_66 rfl ?_
      refine pm_iadd hC dX11_drawAnswer_68 ?_
      refine pm_istore (lv' := [(8, (0, (((a2 * 100) + (y252 * 10)) + y265))), (7, (0, (y295 - 99))), (6, (0, y285)), (5, (0, y275)), (4, (0, y265)), (3, (0, y252)), (0, (3, 0)), (1, (0, a1)), (2, (0, a2))]) hC dX11_drawAnswer_69 (by decide) rfl ?_
      refine pm_iload hC 3 dX11_drawAnswer_71 rfl ?_
      refine pm_bipush (v := 10) hC dX11_drawAnswer_73 (by decide) ?_
      refine pm_imul hC dX11_drawAnswer_75 ?_
      refine pm_iload hC 2 dX11_drawAnswer_76 rfl ?_
      refine pm_iadd hC dX11_drawAnswer_78 ?_
      refine pm_istore (lv' := [(9, (0, ((y275 * 10) + y285))), (8, (0, (((a2 * 100) + (y252 * 10)) + y265))), (7, (0, (y295 - 99))), (6, (0, y285)), (5, (0, y275)), (4, (0, y265)), (3, (0, y252)), (0, (3, 0)), (1, (0, a1)), (2, (0, a2))]) hC dX11_drawAnswer_79 (by decide) rfl ?_
      refine pm_aload_n hC 7 (by decide) dX11_drawAnswer_81 rfl ?_
      refine pm_iload hC 1 dX11_drawAnswer_82 rfl ?_
      refine pm_iload hC 0 dX11_drawAnswer_84 rfl ?_
      refine pm_iload hC 2 dX11_drawAnswer_86 rfl ?_
      refine pm_callV (ci := 11) (as := [(0, (((a2 * 100) + (y252 * 10)) + y265)), (0, ((y275 * 10) + y285)), (0, (y295 - 99))]) (st := []) hC 0 (c_X11_pose_0 (((a2 * 100) + (y252 * 10)) + y265) ((y275 * 10) + y285) (y295 - 99) ⟨by omega, by omega⟩ ⟨by omega, by omega⟩ ⟨by omega, by omega⟩ (by omega)) lm_X11_229 li_X11_pose (by decide) (by decide) rfl rfl rfl (by decide) rfl rfl (Nat.le_of_ble_eq_true rfl) ⟨Nat.le_refl _, Or.inl rfl⟩ dX11_drawAnswer_88 ⟨rfl, hV297⟩ (fun r302 V303 hp304 => ?_)
      obtain ⟨rfl, hV305, hF306⟩ := hp304
      change pm_J X 91 [(9, (0, ((y275 * 10) + y285))), (8, (0, (((a2 * 100) + (y252 * 10)) + y265))), (7, (0, (y295 - 99))), (6, (0, y285)), (5, (0, y275)), (4, (0, y265)), (3, (0, y252)), (0, (3, 0)), (1, (0, a1)), (2, (0, a2))] [] 118 V303
      have hF307 := pm_fr.tr hF299 hF306 (by decide)
      have e308 : V303 51 0 = y246 := by rw [hF306 51 (by decide)]; exact e300
      have e309 : V303 45 0 = y259 := by rw [hF306 45 (by decide)]; exact e301
      refine pm_aload_n hC 7 (by decide) dX11_drawAnswer_91 rfl ?_
      have e310 : V303 0 5 = 73 := hV305.one 0 5 (by decide) (by decide) rfl
      refine pm_getf (v := 73) hC 0 fl_X11_75 rfl rfl (by decide) rfl e310 dX11_drawAnswer_92 ?_
      refine pm_iload_n hC 8 dX11_drawAnswer_95 rfl ?_
      refine pm_callV (ci := 10) (as := [(0, a1)]) (st := []) hC 73 (c_X10_weigh_73 a1 ⟨by omega, by omega⟩) lm_X11_294 li_X10_weigh (by decide) (by decide) rfl rfl rfl (by decide) rfl rfl (Nat.le_of_ble_eq_true rfl) ⟨Nat.le_refl _, Or.inl rfl⟩ dX11_drawAnswer_96 ⟨rfl, hV305⟩ (fun r311 V312 hp313 => ?_)
      obtain ⟨rfl, hV314, hF315⟩ := hp313
      change pm_J X 99 [(9, (0, ((y275 * 10) + y285))), (8, (0, (((a2 * 100) + (y252 * 10)) + y265))), (7, (0, (y295 - 99))), (6, (0, y285)), (5, (0, y275)), (4, (0, y265)), (3, (0, y252)), (0, (3, 0)), (1, (0, a1)), (2, (0, a2))] [] 118 V312
      have hF316 := pm_fr.tr hF307 hF315 (by decide)
      have e317 : V312 51 0 = y246 := by rw [hF315 51 (by decide)]; exact e308
      have e318 : V312 45 0 = y259 := by rw [hF315 45 (by decide)]; exact e309
      have e319 : V312 0 5 = 73 := by rw [hF315 0 (by decide)]; exact e310
      refine pm_aload_n hC 7 (by decide) dX11_drawAnswer_99 rfl ?_
      refine pm_getf (v := 73) hC 0 fl_X11_75 rfl rfl (by decide) rfl e319 dX11_drawAnswer_100 ?_
      refine pm_aload_n hC 7 (by decide) dX11_drawAnswer_103 rfl ?_
      refine pm_aload_n hC 7 (by decide) dX11_drawAnswer_104 rfl ?_
      refine pm_getf (v := 73) hC 0 fl_X11_75 rfl rfl (by decide) rfl e319 dX11_drawAnswer_105 ?_
      obtain ⟨y320, e321⟩ : ∃ y, V312 73 14 = y := ⟨_, rfl⟩
      have b322 := hV314.get 73 14 (lo := (-9223372036854775808)) (hi := 9223372036854775807) (by decide) (by decide) rfl
      rw [e321] at b322
      refine pm_getf (v := y320) hC 73 fl_X11_205 rfl rfl (by decide) rfl e321 dX11_drawAnswer_108 ?_
      refine pm_callV (ci := 11) (as := [(1, y320)]) (st := [(3, 73)]) hC 0 (c_X11_lotBelow_0 y320 ⟨by omega, by omega⟩) lm_X11_392 li_X11_lotBelow (by decide) (by decide) rfl rfl rfl (by decide) rfl rfl (Nat.le_of_ble_eq_true rfl) ⟨Nat.le_refl _, Or.inl rfl⟩ dX11_drawAnswer_111 ⟨rfl, hV314⟩ (fun r323 V324 hp325 => ?_)
      obtain ⟨y326, rfl, b327, hV328, hF329⟩ := hp325
      change pm_J X 114 [(9, (0, ((y275 * 10) + y285))), (8, (0, (((a2 * 100) + (y252 * 10)) + y265))), (7, (0, (y295 - 99))), (6, (0, y285)), (5, (0, y275)), (4, (0, y265)), (3, (0, y252)), (0, (3, 0)), (1, (0, a1)), (2, (0, a2))] [(0, y326), (3, 73)] 118 V324
      have hF330 := pm_fr.tr hF316 hF329 (by decide)
      have e331 : V324 51 0 = y246 := by rw [hF329 51 (by decide)]; exact e317
      have e332 : V324 45 0 = y259 := by rw [hF329 45 (by decide)]; exact e318
      have e333 : V324 73 14 = y320 := by rw [hF329 73 (by decide)]; exact e321
      refine pm_i2l hC ⟨by omega, by omega⟩ dX11_drawAnswer_114 ?_
      refine pm_callV (ci := 10) (as := [(1, y326)]) (st := []) hC 73 (c_X10_saidAt_73 y326 ⟨by omega, by omega⟩) lm_X11_400 li_X10_saidAt (by decide) (by decide) rfl rfl rfl (by decide) rfl rfl (Nat.le_of_ble_eq_true rfl) ⟨Nat.le_refl _, Or.inl rfl⟩ dX11_drawAnswer_115 ⟨rfl, hV328⟩ (fun r334 V335 hp336 => ?_)
      obtain ⟨y337, rfl, b338, rfl⟩ := hp336
      change pm_J X 118 [(9, (0, ((y275 * 10) + y285))), (8, (0, (((a2 * 100) + (y252 * 10)) + y265))), (7, (0, (y295 - 99))), (6, (0, y285)), (5, (0, y275)), (4, (0, y265)), (3, (0, y252)), (0, (3, 0)), (1, (0, a1)), (2, (0, a2))] [(0, y337)] 118 V324
      refine pm_istore (lv' := [(10, (0, y337)), (9, (0, ((y275 * 10) + y285))), (8, (0, (((a2 * 100) + (y252 * 10)) + y265))), (7, (0, (y295 - 99))), (6, (0, y285)), (5, (0, y275)), (4, (0, y265)), (3, (0, y252)), (0, (3, 0)), (1, (0, a1)), (2, (0, a2))]) hC dX11_drawAnswer_118 (by decide) rfl ?_
      refine pm_aload_n hC 8 (by decide) dX11_drawAnswer_120 rfl ?_
      refine pm_ldc2 (v := 1000) hC 4082 dX11_drawAnswer_121 (by decide +kernel) ?_
      refine pm_callV (ci := 11) (as := [(1, 1000)]) (st := []) hC 0 (c_X11_lotBelow_0 1000 ⟨by decide, by decide⟩) lm_X11_392 li_X11_lotBelow (by decide) (by decide) rfl rfl rfl (by decide) rfl rfl (Nat.le_of_ble_eq_true rfl) ⟨Nat.le_refl _, Or.inl rfl⟩ dX11_drawAnswer_124 ⟨rfl, hV328⟩ (fun r339 V340 hp341 => ?_)
      obtain ⟨y342, rfl, b343, hV344, hF345⟩ := hp341
      change pm_J X 127 [(10, (0, y337)), (9, (0, ((y275 * 10) + y285))), (8, (0, (((a2 * 100) + (y252 * 10)) + y265))), (7, (0, (y295 - 99))), (6, (0, y285)), (5, (0, y275)), (4, (0, y265)), (3, (0, y252)), (0, (3, 0)), (1, (0, a1)), (2, (0, a2))] [(0, y342)] 118 V340
      have hF346 := pm_fr.tr hF330 hF345 (by decide)
      have e347 : V340 51 0 = y246 := by rw [hF345 51 (by decide)]; exact e331
      have e348 : V340 45 0 = y259 := by rw [hF345 45 (by decide)]; exact e332
      have e349 : V340 73 14 = y320 := by rw [hF345 73 (by decide)]; exact e333
      refine pm_aload_n hC 8 (by decide) dX11_drawAnswer_127 rfl ?_
      have e350 : V340 0 5 = 73 := hV344.one 0 5 (by decide) (by decide) rfl
      refine pm_getf (v := 73) hC 0 fl_X11_75 rfl rfl (by decide) rfl e350 dX11_drawAnswer_128 ?_
      refine pm_callV (ci := 10) (as := []) (st := [(0, y342)]) hC 73 c_X10_chanceNoticed_73 lm_X11_233 li_X10_chanceNoticed (by decide) (by decide) rfl rfl rfl (by decide) rfl rfl (Nat.le_of_ble_eq_true rfl) ⟨Nat.le_refl _, Or.inl rfl⟩ dX11_drawAnswer_131 ⟨rfl, hV344⟩ (fun r351 V352 hp353 => ?_)
      obtain ⟨y354, rfl, b355, rfl⟩ := hp353
      change pm_J X 134 [(10, (0, y337)), (9, (0, ((y275 * 10) + y285))), (8, (0, (((a2 * 100) + (y252 * 10)) + y265))), (7, (0, (y295 - 99))), (6, (0, y285)), (5, (0, y275)), (4, (0, y265)), (3, (0, y252)), (0, (3, 0)), (1, (0, a1)), (2, (0, a2))] [(0, y354), (0, y342)] 118 V340
      refine pm_icmp_ge (tgt := 141) hC ⟨by omega, by omega⟩ ⟨by omega, by omega⟩ dX11_drawAnswer_134 (by decide) (fun c356 => ?_) (fun c356 => ?_)
      · skip
        refine pm_iconst (v := 0) hC dX11_drawAnswer_141 ?_
        refine pm_istore (lv' := [(11, (0, 0)), (10, (0, y337)), (9, (0, ((y275 * 10) + y285))), (8, (0, (((a2 * 100) + (y252 * 10)) + y265))), (7, (0, (y295 - 99))), (6, (0, y285)), (5, (0, y275)), (4, (0, y265)), (3, (0, y252)), (0, (3, 0)), (1, (0, a1)), (2, (0, a2))]) hC dX11_drawAnswer_142 (by decide) rfl ?_
        refine pm_aload_n hC 9 (by decide) dX11_drawAnswer_144 rfl ?_
        have e357 : V340 0 3 = 4 := hV344.one 0 3 (by decide) (by decide) rfl
        refine pm_getf (v := 4) hC 0 fl_X11_24 rfl rfl (by decide) rfl e357 dX11_drawAnswer_145 ?_
        refine pm_iload hC 3 dX11_drawAnswer_148 rfl ?_
        refine pm_iload hC 2 dX11_drawAnswer_150 rfl ?_
        refine pm_iload hC 4 dX11_drawAnswer_152 rfl ?_
        refine pm_iload hC 1 dX11_drawAnswer_154 rfl ?_
        refine pm_iload hC 0 dX11_drawAnswer_156 rfl ?_
        refine pm_callV (ci := 7) (as := [(0, (((a2 * 100) + (y252 * 10)) + y265)), (0, ((y275 * 10) + y285)), (0, (y295 - 99)), (0, y337), (0, 0)]) (st := []) hC 4 (c_X7_addAnswer_4 (((a2 * 100) + (y252 * 10)) + y265) ((y275 * 10) + y285) (y295 - 99) y337 0 ⟨by omega, by omega⟩ ⟨by omega, by omega⟩ ⟨by omega, by omega⟩ ⟨by omega, by omega⟩ ⟨by decide, by decide⟩ (by omega)) lm_X11_236 li_X7_addAnswer (by decide) (by decide) rfl rfl rfl (by decide) rfl rfl (Nat.le_of_ble_eq_true rfl) ⟨Nat.le_refl _, Or.inl rfl⟩ dX11_drawAnswer_158 ⟨rfl, hV344⟩ (fun r358 V359 hp360 => ?_)
        obtain ⟨rfl, hV361, hF362⟩ := hp360
        change pm_J X 161 [(11, (0, 0)), (10, (0, y337)), (9, (0, ((y275 * 10) + y285))), (8, (0, (((a2 * 100) + (y252 * 10)) + y265))), (7, (0, (y295 - 99))), (6, (0, y285)), (5, (0, y275)), (4, (0, y265)), (3, (0, y252)), (0, (3, 0)), (1, (0, a1)), (2, (0, a2))] [] 118 V359
        have hF363 := pm_fr.tr hF346 hF362 (by decide)
        have e364 : V359 51 0 = y246 := by rw [hF362 51 (by decide)]; exact e347
        have e365 : V359 45 0 = y259 := by rw [hF362 45 (by decide)]; exact e348
        have e366 : V359 73 14 = y320 := by rw [hF362 73 (by decide)]; exact e349
        have e367 : V359 0 5 = 73 := by rw [hF362 0 (by decide)]; exact e350
        have e368 : V359 0 3 = 4 := by rw [hF362 0 (by decide)]; exact e357
        exact pm_vret hC hR ⟨rfl, hV361, hF363⟩ dX11_drawAnswer_161
      · skip
        refine pm_iconst (v := 1) hC dX11_drawAnswer_137 ?_
        refine pm_goto (tgt := 142) hC dX11_drawAnswer_138 (by decide) ?_
        refine pm_istore (lv' := [(11, (0, 1)), (10, (0, y337)), (9, (0, ((y275 * 10) + y285))), (8, (0, (((a2 * 100) + (y252 * 10)) + y265))), (7, (0, (y295 - 99))), (6, (0, y285)), (5, (0, y275)), (4, (0, y265)), (3, (0, y252)), (0, (3, 0)), (1, (0, a1)), (2, (0, a2))]) hC dX11_drawAnswer_142 (by decide) rfl ?_
        refine pm_aload_n hC 9 (by decide) dX11_drawAnswer_144 rfl ?_
        have e369 : V340 0 3 = 4 := hV344.one 0 3 (by decide) (by decide) rfl
        refine pm_getf (v := 4) hC 0 fl_X11_24 rfl rfl (by decide) rfl e369 dX11_drawAnswer_145 ?_
        refine pm_iload hC 3 dX11_drawAnswer_148 rfl ?_
        refine pm_iload hC 2 dX11_drawAnswer_150 rfl ?_
        refine pm_iload hC 4 dX11_drawAnswer_152 rfl ?_
        refine pm_iload hC 1 dX11_drawAnswer_154 rfl ?_
        refine pm_iload hC 0 dX11_drawAnswer_156 rfl ?_
        refine pm_callV (ci := 7) (as := [(0, (((a2 * 100) + (y252 * 10)) + y265)), (0, ((y275 * 10) + y285)), (0, (y295 - 99)), (0, y337), (0, 1)]) (st := []) hC 4 (c_X7_addAnswer_4 (((a2 * 100) + (y252 * 10)) + y265) ((y275 * 10) + y285) (y295 - 99) y337 1 ⟨by omega, by omega⟩ ⟨by omega, by omega⟩ ⟨by omega, by omega⟩ ⟨by omega, by omega⟩ ⟨by decide, by decide⟩ (by omega)) lm_X11_236 li_X7_addAnswer (by decide) (by decide) rfl rfl rfl (by decide) rfl rfl (Nat.le_of_ble_eq_true rfl) ⟨Nat.le_refl _, Or.inl rfl⟩ dX11_drawAnswer_158 ⟨rfl, hV344⟩ (fun r370 V371 hp372 => ?_)
        obtain ⟨rfl, hV373, hF374⟩ := hp372
        change pm_J X 161 [(11, (0, 1)), (10, (0, y337)), (9, (0, ((y275 * 10) + y285))), (8, (0, (((a2 * 100) + (y252 * 10)) + y265))), (7, (0, (y295 - 99))), (6, (0, y285)), (5, (0, y275)), (4, (0, y265)), (3, (0, y252)), (0, (3, 0)), (1, (0, a1)), (2, (0, a2))] [] 118 V371
        have hF375 := pm_fr.tr hF346 hF374 (by decide)
        have e376 : V371 51 0 = y246 := by rw [hF374 51 (by decide)]; exact e347
        have e377 : V371 45 0 = y259 := by rw [hF374 45 (by decide)]; exact e348
        have e378 : V371 73 14 = y320 := by rw [hF374 73 (by decide)]; exact e349
        have e379 : V371 0 5 = 73 := by rw [hF374 0 (by decide)]; exact e350
        have e380 : V371 0 3 = 4 := by rw [hF374 0 (by decide)]; exact e369
        exact pm_vret hC hR ⟨rfl, hV373, hF375⟩ dX11_drawAnswer_161
    · skip
      refine pm_getf (v := 51) hC 0 fl_X11_35 rfl rfl (by decide) rfl e258 dX11_drawAnswer_15 ?_
      refine pm_getf (v := y246) hC 51 fl_X11_136 rfl rfl (by decide) rfl e257 dX11_drawAnswer_18 ?_
      refine pm_i2l hC ⟨by omega, by omega⟩ dX11_drawAnswer_21 ?_
      refine pm_callV (ci := 11) (as := [(1, y246)]) (st := []) hC 0 (c_X11_lotBelow_0 y246 ⟨by omega, by omega⟩) lm_X11_392 li_X11_lotBelow (by decide) (by decide) rfl rfl rfl (by decide) rfl rfl (Nat.le_of_ble_eq_true rfl) ⟨Nat.le_refl _, Or.inl rfl⟩ dX11_drawAnswer_22 ⟨rfl, hV254⟩ (fun r381 V382 hp383 => ?_)
      obtain ⟨y384, rfl, b385, hV386, hF387⟩ := hp383
      change pm_J X 25 [(3, (0, y252)), (0, (3, 0)), (1, (0, a1)), (2, (0, a2))] [(0, y384)] 118 V382
      have hF388 := pm_fr.tr hF256 hF387 (by decide)
      have e389 : V382 51 0 = y246 := by rw [hF387 51 (by decide)]; exact e257
      refine pm_istore (lv' := [(4, (0, y384)), (3, (0, y252)), (0, (3, 0)), (1, (0, a1)), (2, (0, a2))]) hC dX11_drawAnswer_25 (by decide) rfl ?_
      refine pm_aload_n hC 2 (by decide) dX11_drawAnswer_27 rfl ?_
      refine pm_ldc2 (v := 10) hC 5097 dX11_drawAnswer_28 (by decide +kernel) ?_
      refine pm_callV (ci := 11) (as := [(1, 10)]) (st := []) hC 0 (c_X11_lotBelow_0 10 ⟨by decide, by decide⟩) lm_X11_392 li_X11_lotBelow (by decide) (by decide) rfl rfl rfl (by decide) rfl rfl (Nat.le_of_ble_eq_true rfl) ⟨Nat.le_refl _, Or.inl rfl⟩ dX11_drawAnswer_31 ⟨rfl, hV386⟩ (fun r390 V391 hp392 => ?_)
      obtain ⟨y393, rfl, b394, hV395, hF396⟩ := hp392
      change pm_J X 34 [(4, (0, y384)), (3, (0, y252)), (0, (3, 0)), (1, (0, a1)), (2, (0, a2))] [(0, y393)] 118 V391
      have hF397 := pm_fr.tr hF388 hF396 (by decide)
      have e398 : V391 51 0 = y246 := by rw [hF396 51 (by decide)]; exact e389
      refine pm_istore (lv' := [(5, (0, y393)), (4, (0, y384)), (3, (0, y252)), (0, (3, 0)), (1, (0, a1)), (2, (0, a2))]) hC dX11_drawAnswer_34 (by decide) rfl ?_
      refine pm_aload_n hC 3 (by decide) dX11_drawAnswer_36 rfl ?_
      refine pm_ldc2 (v := 10) hC 5097 dX11_drawAnswer_37 (by decide +kernel) ?_
      refine pm_callV (ci := 11) (as := [(1, 10)]) (st := []) hC 0 (c_X11_lotBelow_0 10 ⟨by decide, by decide⟩) lm_X11_392 li_X11_lotBelow (by decide) (by decide) rfl rfl rfl (by decide) rfl rfl (Nat.le_of_ble_eq_true rfl) ⟨Nat.le_refl _, Or.inl rfl⟩ dX11_drawAnswer_40 ⟨rfl, hV395⟩ (fun r399 V400 hp401 => ?_)
      obtain ⟨y402, rfl, b403, hV404, hF405⟩ := hp401
      change pm_J X 43 [(5, (0, y393)), (4, (0, y384)), (3, (0, y252)), (0, (3, 0)), (1, (0, a1)), (2, (0, a2))] [(0, y402)] 118 V400
      have hF406 := pm_fr.tr hF397 hF405 (by decide)
      have e407 : V400 51 0 = y246 := by rw [hF405 51 (by decide)]; exact e398
      refine pm_istore (lv' := [(6, (0, y402)), (5, (0, y393)), (4, (0, y384)), (3, (0, y252)), (0, (3, 0)), (1, (0, a1)), (2, (0, a2))]) hC dX11_drawAnswer_43 (by decide) rfl ?_
      refine pm_aload_n hC 4 (by decide) dX11_drawAnswer_45 rfl ?_
      refine pm_ldc2 (v := 199) hC 5098 dX11_drawAnswer_46 (by decide +kernel) ?_
      refine pm_callV (ci := 11) (as := [(1, 199)]) (st := []) hC 0 (c_X11_lotBelow_0 199 ⟨by decide, by decide⟩) lm_X11_392 li_X11_lotBelow (by decide) (by decide) rfl rfl rfl (by decide) rfl rfl (Nat.le_of_ble_eq_true rfl) ⟨Nat.le_refl _, Or.inl rfl⟩ dX11_drawAnswer_49 ⟨rfl, hV404⟩ (fun r408 V409 hp410 => ?_)
      obtain ⟨y411, rfl, b412, hV413, hF414⟩ := hp410
      change pm_J X 52 [(6, (0, y402)), (5, (0, y393)), (4, (0, y384)), (3, (0, y252)), (0, (3, 0)), (1, (0, a1)), (2, (0, a2))] [(0, y411)] 118 V409
      have hF415 := pm_fr.tr hF406 hF414 (by decide)
      have e416 : V409 51 0 = y246 := by rw [hF414 51 (by decide)]; exact e407
      refine pm_bipush (v := 99) hC dX11_drawAnswer_52 (by decide) ?_
      refine pm_isub hC dX11_drawAnswer_54 ?_
      refine pm_istore (lv' := [(7, (0, (y411 - 99))), (6, (0, y402)), (5, (0, y393)), (4, (0, y384)), (3, (0, y252)), (0, (3, 0)), (1, (0, a1)), (2, (0, a2))]) hC dX11_drawAnswer_55 (by decide) rfl ?_
      refine pm_iload_n hC 7 dX11_drawAnswer_57 rfl ?_
      refine pm_bipush (v := 100) hC dX11_drawAnswer_58 (by decide) ?_
      refine pm_imul hC dX11_drawAnswer_60 ?_
      refine pm_iload_n hC 4 dX11_drawAnswer_61 rfl ?_
      refine pm_bipush (v := 10) hC dX11_drawAnswer_62 (by decide) ?_
      refine pm_imul hC dX11_drawAnswer_64 ?_
      refine pm_iadd hC dX11_drawAnswer_65 ?_
      refine pm_iload hC 3 dX11_drawAnswer_66 rfl ?_
      refine pm_iadd hC dX11_drawAnswer_68 ?_
      refine pm_istore (lv' := [(8, (0, (((a2 * 100) + (y252 * 10)) + y384))), (7, (0, (y411 - 99))), (6, (0, y402)), (5, (0, y393)), (4, (0, y384)), (3, (0, y252)), (0, (3, 0)), (1, (0, a1)), (2, (0, a2))]) hC dX11_drawAnswer_69 (by decide) rfl ?_
      refine pm_iload hC 3 dX11_drawAnswer_71 rfl ?_
      refine pm_bipush (v := 10) hC dX11_drawAnswer_73 (by decide) ?_
      refine pm_imul hC dX11_drawAnswer_75 ?_
      refine pm_iload hC 2 dX11_drawAnswer_76 rfl ?_
      refine pm_iadd hC dX11_drawAnswer_78 ?_
      refine pm_istore (lv' := [(9, (0, ((y393 * 10) + y402))), (8, (0, (((a2 * 100) + (y252 * 10)) + y384))), (7, (0, (y411 - 99))), (6, (0, y402)), (5, (0, y393)), (4, (0, y384)), (3, (0, y252)), (0, (3, 0)), (1, (0, a1)), (2, (0, a2))]) hC dX11_drawAnswer_79 (by decide) rfl ?_
      refine pm_aload_n hC 7 (by decide) dX11_drawAnswer_81 rfl ?_
      refine pm_iload hC 1 dX11_drawAnswer_82 rfl ?_
      refine pm_iload hC 0 dX11_drawAnswer_84 rfl ?_
      refine pm_iload hC 2 dX11_drawAnswer_86 rfl ?_
      refine pm_callV (ci := 11) (as := [(0, (((a2 * 100) + (y252 * 10)) + y384)), (0, ((y393 * 10) + y402)), (0, (y411 - 99))]) (st := []) hC 0 (c_X11_pose_0 (((a2 * 100) + (y252 * 10)) + y384) ((y393 * 10) + y402) (y411 - 99) ⟨by omega, by omega⟩ ⟨by omega, by omega⟩ ⟨by omega, by omega⟩ (by omega)) lm_X11_229 li_X11_pose (by decide) (by decide) rfl rfl rfl (by decide) rfl rfl (Nat.le_of_ble_eq_true rfl) ⟨Nat.le_refl _, Or.inl rfl⟩ dX11_drawAnswer_88 ⟨rfl, hV413⟩ (fun r417 V418 hp419 => ?_)
      obtain ⟨rfl, hV420, hF421⟩ := hp419
      change pm_J X 91 [(9, (0, ((y393 * 10) + y402))), (8, (0, (((a2 * 100) + (y252 * 10)) + y384))), (7, (0, (y411 - 99))), (6, (0, y402)), (5, (0, y393)), (4, (0, y384)), (3, (0, y252)), (0, (3, 0)), (1, (0, a1)), (2, (0, a2))] [] 118 V418
      have hF422 := pm_fr.tr hF415 hF421 (by decide)
      have e423 : V418 51 0 = y246 := by rw [hF421 51 (by decide)]; exact e416
      refine pm_aload_n hC 7 (by decide) dX11_drawAnswer_91 rfl ?_
      have e424 : V418 0 5 = 73 := hV420.one 0 5 (by decide) (by decide) rfl
      refine pm_getf (v := 73) hC 0 fl_X11_75 rfl rfl (by decide) rfl e424 dX11_drawAnswer_92 ?_
      refine pm_iload_n hC 8 dX11_drawAnswer_95 rfl ?_
      refine pm_callV (ci := 10) (as := [(0, a1)]) (st := []) hC 73 (c_X10_weigh_73 a1 ⟨by omega, by omega⟩) lm_X11_294 li_X10_weigh (by decide) (by decide) rfl rfl rfl (by decide) rfl rfl (Nat.le_of_ble_eq_true rfl) ⟨Nat.le_refl _, Or.inl rfl⟩ dX11_drawAnswer_96 ⟨rfl, hV420⟩ (fun r425 V426 hp427 => ?_)
      obtain ⟨rfl, hV428, hF429⟩ := hp427
      change pm_J X 99 [(9, (0, ((y393 * 10) + y402))), (8, (0, (((a2 * 100) + (y252 * 10)) + y384))), (7, (0, (y411 - 99))), (6, (0, y402)), (5, (0, y393)), (4, (0, y384)), (3, (0, y252)), (0, (3, 0)), (1, (0, a1)), (2, (0, a2))] [] 118 V426
      have hF430 := pm_fr.tr hF422 hF429 (by decide)
      have e431 : V426 51 0 = y246 := by rw [hF429 51 (by decide)]; exact e423
      have e432 : V426 0 5 = 73 := by rw [hF429 0 (by decide)]; exact e424
      refine pm_aload_n hC 7 (by decide) dX11_drawAnswer_99 rfl ?_
      refine pm_getf (v := 73) hC 0 fl_X11_75 rfl rfl (by decide) rfl e432 dX11_drawAnswer_100 ?_
      refine pm_aload_n hC 7 (by decide) dX11_drawAnswer_103 rfl ?_
      refine pm_aload_n hC 7 (by decide) dX11_drawAnswer_104 rfl ?_
      refine pm_getf (v := 73) hC 0 fl_X11_75 rfl rfl (by decide) rfl e432 dX11_drawAnswer_105 ?_
      obtain ⟨y433, e434⟩ : ∃ y, V426 73 14 = y := ⟨_, rfl⟩
      have b435 := hV428.get 73 14 (lo := (-9223372036854775808)) (hi := 9223372036854775807) (by decide) (by decide) rfl
      rw [e434] at b435
      refine pm_getf (v := y433) hC 73 fl_X11_205 rfl rfl (by decide) rfl e434 dX11_drawAnswer_108 ?_
      refine pm_callV (ci := 11) (as := [(1, y433)]) (st := [(3, 73)]) hC 0 (c_X11_lotBelow_0 y433 ⟨by omega, by omega⟩) lm_X11_392 li_X11_lotBelow (by decide) (by decide) rfl rfl rfl (by decide) rfl rfl (Nat.le_of_ble_eq_true rfl) ⟨Nat.le_refl _, Or.inl rfl⟩ dX11_drawAnswer_111 ⟨rfl, hV428⟩ (fun r436 V437 hp438 => ?_)
      obtain ⟨y439, rfl, b440, hV441, hF442⟩ := hp438
      change pm_J X 114 [(9, (0, ((y393 * 10) + y402))), (8, (0, (((a2 * 100) + (y252 * 10)) + y384))), (7, (0, (y411 - 99))), (6, (0, y402)), (5, (0, y393)), (4, (0, y384)), (3, (0, y252)), (0, (3, 0)), (1, (0, a1)), (2, (0, a2))] [(0, y439), (3, 73)] 118 V437
      have hF443 := pm_fr.tr hF430 hF442 (by decide)
      have e444 : V437 51 0 = y246 := by rw [hF442 51 (by decide)]; exact e431
      have e445 : V437 73 14 = y433 := by rw [hF442 73 (by decide)]; exact e434
      refine pm_i2l hC ⟨by omega, by omega⟩ dX11_drawAnswer_114 ?_
      refine pm_callV (ci := 10) (as := [(1, y439)]) (st := []) hC 73 (c_X10_saidAt_73 y439 ⟨by omega, by omega⟩) lm_X11_400 li_X10_saidAt (by decide) (by decide) rfl rfl rfl (by decide) rfl rfl (Nat.le_of_ble_eq_true rfl) ⟨Nat.le_refl _, Or.inl rfl⟩ dX11_drawAnswer_115 ⟨rfl, hV441⟩ (fun r446 V447 hp448 => ?_)
      obtain ⟨y449, rfl, b450, rfl⟩ := hp448
      change pm_J X 118 [(9, (0, ((y393 * 10) + y402))), (8, (0, (((a2 * 100) + (y252 * 10)) + y384))), (7, (0, (y411 - 99))), (6, (0, y402)), (5, (0, y393)), (4, (0, y384)), (3, (0, y252)), (0, (3, 0)), (1, (0, a1)), (2, (0, a2))] [(0, y449)] 118 V437
      refine pm_istore (lv' := [(10, (0, y449)), (9, (0, ((y393 * 10) + y402))), (8, (0, (((a2 * 100) + (y252 * 10)) + y384))), (7, (0, (y411 - 99))), (6, (0, y402)), (5, (0, y393)), (4, (0, y384)), (3, (0, y252)), (0, (3, 0)), (1, (0, a1)), (2, (0, a2))]) hC dX11_drawAnswer_118 (by decide) rfl ?_
      refine pm_aload_n hC 8 (by decide) dX11_drawAnswer_120 rfl ?_
      refine pm_ldc2 (v := 1000) hC 4082 dX11_drawAnswer_121 (by decide +kernel) ?_
      refine pm_callV (ci := 11) (as := [(1, 1000)]) (st := []) hC 0 (c_X11_lotBelow_0 1000 ⟨by decide, by decide⟩) lm_X11_392 li_X11_lotBelow (by decide) (by decide) rfl rfl rfl (by decide) rfl rfl (Nat.le_of_ble_eq_true rfl) ⟨Nat.le_refl _, Or.inl rfl⟩ dX11_drawAnswer_124 ⟨rfl, hV441⟩ (fun r451 V452 hp453 => ?_)
      obtain ⟨y454, rfl, b455, hV456, hF457⟩ := hp453
      change pm_J X 127 [(10, (0, y449)), (9, (0, ((y393 * 10) + y402))), (8, (0, (((a2 * 100) + (y252 * 10)) + y384))), (7, (0, (y411 - 99))), (6, (0, y402)), (5, (0, y393)), (4, (0, y384)), (3, (0, y252)), (0, (3, 0)), (1, (0, a1)), (2, (0, a2))] [(0, y454)] 118 V452
      have hF458 := pm_fr.tr hF443 hF457 (by decide)
      have e459 : V452 51 0 = y246 := by rw [hF457 51 (by decide)]; exact e444
      have e460 : V452 73 14 = y433 := by rw [hF457 73 (by decide)]; exact e445
      refine pm_aload_n hC 8 (by decide) dX11_drawAnswer_127 rfl ?_
      have e461 : V452 0 5 = 73 := hV456.one 0 5 (by decide) (by decide) rfl
      refine pm_getf (v := 73) hC 0 fl_X11_75 rfl rfl (by decide) rfl e461 dX11_drawAnswer_128 ?_
      refine pm_callV (ci := 10) (as := []) (st := [(0, y454)]) hC 73 c_X10_chanceNoticed_73 lm_X11_233 li_X10_chanceNoticed (by decide) (by decide) rfl rfl rfl (by decide) rfl rfl (Nat.le_of_ble_eq_true rfl) ⟨Nat.le_refl _, Or.inl rfl⟩ dX11_drawAnswer_131 ⟨rfl, hV456⟩ (fun r462 V463 hp464 => ?_)
      obtain ⟨y465, rfl, b466, rfl⟩ := hp464
      change pm_J X 134 [(10, (0, y449)), (9, (0, ((y393 * 10) + y402))), (8, (0, (((a2 * 100) + (y252 * 10)) + y384))), (7, (0, (y411 - 99))), (6, (0, y402)), (5, (0, y393)), (4, (0, y384)), (3, (0, y252)), (0, (3, 0)), (1, (0, a1)), (2, (0, a2))] [(0, y465), (0, y454)] 118 V452
      refine pm_icmp_ge (tgt := 141) hC ⟨by omega, by omega⟩ ⟨by omega, by omega⟩ dX11_drawAnswer_134 (by decide) (fun c467 => ?_) (fun c467 => ?_)
      · skip
        refine pm_iconst (v := 0) hC dX11_drawAnswer_141 ?_
        refine pm_istore (lv' := [(11, (0, 0)), (10, (0, y449)), (9, (0, ((y393 * 10) + y402))), (8, (0, (((a2 * 100) + (y252 * 10)) + y384))), (7, (0, (y411 - 99))), (6, (0, y402)), (5, (0, y393)), (4, (0, y384)), (3, (0, y252)), (0, (3, 0)), (1, (0, a1)), (2, (0, a2))]) hC dX11_drawAnswer_142 (by decide) rfl ?_
        refine pm_aload_n hC 9 (by decide) dX11_drawAnswer_144 rfl ?_
        have e468 : V452 0 3 = 4 := hV456.one 0 3 (by decide) (by decide) rfl
        refine pm_getf (v := 4) hC 0 fl_X11_24 rfl rfl (by decide) rfl e468 dX11_drawAnswer_145 ?_
        refine pm_iload hC 3 dX11_drawAnswer_148 rfl ?_
        refine pm_iload hC 2 dX11_drawAnswer_150 rfl ?_
        refine pm_iload hC 4 dX11_drawAnswer_152 rfl ?_
        refine pm_iload hC 1 dX11_drawAnswer_154 rfl ?_
        refine pm_iload hC 0 dX11_drawAnswer_156 rfl ?_
        refine pm_callV (ci := 7) (as := [(0, (((a2 * 100) + (y252 * 10)) + y384)), (0, ((y393 * 10) + y402)), (0, (y411 - 99)), (0, y449), (0, 0)]) (st := []) hC 4 (c_X7_addAnswer_4 (((a2 * 100) + (y252 * 10)) + y384) ((y393 * 10) + y402) (y411 - 99) y449 0 ⟨by omega, by omega⟩ ⟨by omega, by omega⟩ ⟨by omega, by omega⟩ ⟨by omega, by omega⟩ ⟨by decide, by decide⟩ (by omega)) lm_X11_236 li_X7_addAnswer (by decide) (by decide) rfl rfl rfl (by decide) rfl rfl (Nat.le_of_ble_eq_true rfl) ⟨Nat.le_refl _, Or.inl rfl⟩ dX11_drawAnswer_158 ⟨rfl, hV456⟩ (fun r469 V470 hp471 => ?_)
        obtain ⟨rfl, hV472, hF473⟩ := hp471
        change pm_J X 161 [(11, (0, 0)), (10, (0, y449)), (9, (0, ((y393 * 10) + y402))), (8, (0, (((a2 * 100) + (y252 * 10)) + y384))), (7, (0, (y411 - 99))), (6, (0, y402)), (5, (0, y393)), (4, (0, y384)), (3, (0, y252)), (0, (3, 0)), (1, (0, a1)), (2, (0, a2))] [] 118 V470
        have hF474 := pm_fr.tr hF458 hF473 (by decide)
        have e475 : V470 51 0 = y246 := by rw [hF473 51 (by decide)]; exact e459
        have e476 : V470 73 14 = y433 := by rw [hF473 73 (by decide)]; exact e460
        have e477 : V470 0 5 = 73 := by rw [hF473 0 (by decide)]; exact e461
        have e478 : V470 0 3 = 4 := by rw [hF473 0 (by decide)]; exact e468
        exact pm_vret hC hR ⟨rfl, hV472, hF474⟩ dX11_drawAnswer_161
      · skip
        refine pm_iconst (v := 1) hC dX11_drawAnswer_137 ?_
        refine pm_goto (tgt := 142) hC dX11_drawAnswer_138 (by decide) ?_
        refine pm_istore (lv' := [(11, (0, 1)), (10, (0, y449)), (9, (0, ((y393 * 10) + y402))), (8, (0, (((a2 * 100) + (y252 * 10)) + y384))), (7, (0, (y411 - 99))), (6, (0, y402)), (5, (0, y393)), (4, (0, y384)), (3, (0, y252)), (0, (3, 0)), (1, (0, a1)), (2, (0, a2))]) hC dX11_drawAnswer_142 (by decide) rfl ?_
        refine pm_aload_n hC 9 (by decide) dX11_drawAnswer_144 rfl ?_
        have e479 : V452 0 3 = 4 := hV456.one 0 3 (by decide) (by decide) rfl
        refine pm_getf (v := 4) hC 0 fl_X11_24 rfl rfl (by decide) rfl e479 dX11_drawAnswer_145 ?_
        refine pm_iload hC 3 dX11_drawAnswer_148 rfl ?_
        refine pm_iload hC 2 dX11_drawAnswer_150 rfl ?_
        refine pm_iload hC 4 dX11_drawAnswer_152 rfl ?_
        refine pm_iload hC 1 dX11_drawAnswer_154 rfl ?_
        refine pm_iload hC 0 dX11_drawAnswer_156 rfl ?_
        refine pm_callV (ci := 7) (as := [(0, (((a2 * 100) + (y252 * 10)) + y384)), (0, ((y393 * 10) + y402)), (0, (y411 - 99)), (0, y449), (0, 1)]) (st := []) hC 4 (c_X7_addAnswer_4 (((a2 * 100) + (y252 * 10)) + y384) ((y393 * 10) + y402) (y411 - 99) y449 1 ⟨by omega, by omega⟩ ⟨by omega, by omega⟩ ⟨by omega, by omega⟩ ⟨by omega, by omega⟩ ⟨by decide, by decide⟩ (by omega)) lm_X11_236 li_X7_addAnswer (by decide) (by decide) rfl rfl rfl (by decide) rfl rfl (Nat.le_of_ble_eq_true rfl) ⟨Nat.le_refl _, Or.inl rfl⟩ dX11_drawAnswer_158 ⟨rfl, hV456⟩ (fun r480 V481 hp482 => ?_)
        obtain ⟨rfl, hV483, hF484⟩ := hp482
        change pm_J X 161 [(11, (0, 1)), (10, (0, y449)), (9, (0, ((y393 * 10) + y402))), (8, (0, (((a2 * 100) + (y252 * 10)) + y384))), (7, (0, (y411 - 99))), (6, (0, y402)), (5, (0, y393)), (4, (0, y384)), (3, (0, y252)), (0, (3, 0)), (1, (0, a1)), (2, (0, a2))] [] 118 V481
        have hF485 := pm_fr.tr hF458 hF484 (by decide)
        have e486 : V481 51 0 = y246 := by rw [hF484 51 (by decide)]; exact e459
        have e487 : V481 73 14 = y433 := by rw [hF484 73 (by decide)]; exact e460
        have e488 : V481 0 5 = 73 := by rw [hF484 0 (by decide)]; exact e461
        have e489 : V481 0 3 = 4 := by rw [hF484 0 (by decide)]; exact e479
        exact pm_vret hC hR ⟨rfl, hV483, hF485⟩ dX11_drawAnswer_161
set_option maxHeartbeats 4000000 in
set_option maxRecDepth 100000 in
theorem c_X11_draw_0 (a1 a2 a3 a4 : Int) (h0 : (-2147483648) ≤ a1 ∧ a1 ≤ 2147483647) (h1 : (-2147483648) ≤ a2 ∧ a2 ≤ 2147483647) (h2 : (-2147483648) ≤ a3 ∧ a3 ≤ 2147483647) (h3 : (-2147483648) ≤ a4 ∧ a4 ≤ 2147483647) : pm_K 6 yX11_draw cX11_draw 7 (some .int) (fun av V => av = [(3, 0), (0, a1), (0, a2), (0, a3), (0, a4)] ∧ pm_ok 0 90 V) (fun _ V r V' => ∃ y, r = some (0, y) ∧ ((-1) ≤ y ∧ y ≤ 60) ∧ pm_ok 0 90 V' ∧ pm_fr [0, 4, 9, 10, 11, 12, 13, 73, 74, 75, 76, 77] V V') := by
  refine pm_MT.of (by decide) ⟨Nat.le_refl _, by decide⟩ (fun av V h => by rw [h.1]; exact (by decide : pm_words [(3, 0), (0, 0), (0, 0), (0, 0), (0, 0)] ≤ 7)) ?_
  rintro X av V0 hC - hR ⟨rfl, hV0⟩
  change pm_J X 0 [(0, (3, 0)), (1, (0, a1)), (2, (0, a2)), (3, (0, a3)), (4, (0, a4))] [] 118 V0
  refine pm_iload_n hC 1 dX11_draw_0 rfl ?_
  refine pm_callS (as := [(0, a1)]) (st := []) hC (c_X11_isLaw a1 ⟨by omega, by omega⟩) lm_X11_262 ls_X11_isLaw (by decide) (by decide) rfl rfl (Nat.le_of_ble_eq_true rfl) ⟨Nat.le_refl _, Or.inl rfl⟩ dX11_draw_1 ⟨rfl, hV0⟩ (fun r1 V2 hp3 => ?_)
  obtain ⟨y4, rfl, b5, rfl⟩ := hp3
  change pm_J X 4 [(0, (3, 0)), (1, (0, a1)), (2, (0, a2)), (3, (0, a3)), (4, (0, a4))] [(0, y4)] 118 V0
  refine pm_if_eq (tgt := 30) hC ⟨by omega, by omega⟩ dX11_draw_4 (by decide) (fun c6 => ?_) (fun c6 => ?_)
  · skip
    refine pm_iconst (v := 0) hC dX11_draw_30 ?_
    refine pm_istore (lv' := [(5, (0, 0)), (0, (3, 0)), (1, (0, a1)), (2, (0, a2)), (3, (0, a3)), (4, (0, a4))]) hC dX11_draw_31 (by decide) rfl ?_
    refine pm_iload hC 0 dX11_draw_33 rfl ?_
    refine pm_if_eq (tgt := 66) hC ⟨by decide, by decide⟩ dX11_draw_35 (by decide) (fun c7 => ?_) (fun c7 => ?_)
    · skip
      refine pm_iconst (v := (-1)) hC dX11_draw_66 ?_
      exact pm_iret hC hR pm_nar0 ⟨(-1), rfl, ⟨by omega, by omega⟩, hV0, (pm_fr.rf (ws := [0, 4, 9, 10, 11, 12, 13, 73, 74, 75, 76, 77]) (V := V0))⟩ dX11_draw_67
    · skip
      exfalso; omega
  · skip
    refine pm_aload_n hC 0 (by decide) dX11_draw_7 rfl ?_
    refine pm_iload_n hC 2 dX11_draw_8 rfl ?_
    refine pm_callV (ci := 11) (as := [(0, a2)]) (st := []) hC 0 (c_X11_isPerson_0 a2 ⟨by omega, by omega⟩) lm_X11_183 li_X11_isPerson (by decide) (by decide) rfl rfl rfl (by decide) rfl rfl (Nat.le_of_ble_eq_true rfl) ⟨Nat.le_refl _, Or.inl rfl⟩ dX11_draw_9 ⟨rfl, hV0⟩ (fun r8 V9 hp10 => ?_)
    obtain ⟨y11, rfl, b12, rfl⟩ := hp10
    change pm_J X 12 [(0, (3, 0)), (1, (0, a1)), (2, (0, a2)), (3, (0, a3)), (4, (0, a4))] [(0, y11)] 118 V0
    refine pm_if_eq (tgt := 30) hC ⟨by omega, by omega⟩ dX11_draw_12 (by decide) (fun c13 => ?_) (fun c13 => ?_)
    · skip
      refine pm_iconst (v := 0) hC dX11_draw_30 ?_
      refine pm_istore (lv' := [(5, (0, 0)), (0, (3, 0)), (1, (0, a1)), (2, (0, a2)), (3, (0, a3)), (4, (0, a4))]) hC dX11_draw_31 (by decide) rfl ?_
      refine pm_iload hC 0 dX11_draw_33 rfl ?_
      refine pm_if_eq (tgt := 66) hC ⟨by decide, by decide⟩ dX11_draw_35 (by decide) (fun c14 => ?_) (fun c14 => ?_)
      · skip
        refine pm_iconst (v := (-1)) hC dX11_draw_66 ?_
        exact pm_iret hC hR pm_nar0 ⟨(-1), rfl, ⟨by omega, by omega⟩, hV0, (pm_fr.rf (ws := [0, 4, 9, 10, 11, 12, 13, 73, 74, 75, 76, 77]) (V := V0))⟩ dX11_draw_67
      · skip
        exfalso; omega
    · skip
      refine pm_iload_n hC 3 dX11_draw_15 rfl ?_
      refine pm_if_lt (tgt := 30) hC ⟨by omega, by omega⟩ dX11_draw_16 (by decide) (fun c15 => ?_) (fun c15 => ?_)
      · skip
        refine pm_iconst (v := 0) hC dX11_draw_30 ?_
        refine pm_istore (lv' := [(5, (0, 0)), (0, (3, 0)), (1, (0, a1)), (2, (0, a2)), (3, (0, a3)), (4, (0, a4))]) hC dX11_draw_31 (by decide) rfl ?_
        refine pm_iload hC 0 dX11_draw_33 rfl ?_
        refine pm_if_eq (tgt := 66) hC ⟨by decide, by decide⟩ dX11_draw_35 (by decide) (fun c16 => ?_) (fun c16 => ?_)
        · skip
          refine pm_iconst (v := (-1)) hC dX11_draw_66 ?_
          exact pm_iret hC hR pm_nar0 ⟨(-1), rfl, ⟨by omega, by omega⟩, hV0, (pm_fr.rf (ws := [0, 4, 9, 10, 11, 12, 13, 73, 74, 75, 76, 77]) (V := V0))⟩ dX11_draw_67
        · skip
          exfalso; omega
      · skip
        refine pm_iload_n hC 3 dX11_draw_19 rfl ?_
        refine pm_ldcw (v := 1000000) hC 5084 dX11_draw_20 (by decide +kernel) ?_
        refine pm_icmp_gt (tgt := 30) hC ⟨by omega, by omega⟩ ⟨by decide, by decide⟩ dX11_draw_23 (by decide) (fun c17 => ?_) (fun c17 => ?_)
        · skip
          refine pm_iconst (v := 0) hC dX11_draw_30 ?_
          refine pm_istore (lv' := [(5, (0, 0)), (0, (3, 0)), (1, (0, a1)), (2, (0, a2)), (3, (0, a3)), (4, (0, a4))]) hC dX11_draw_31 (by decide) rfl ?_
          refine pm_iload hC 0 dX11_draw_33 rfl ?_
          refine pm_if_eq (tgt := 66) hC ⟨by decide, by decide⟩ dX11_draw_35 (by decide) (fun c18 => ?_) (fun c18 => ?_)
          · skip
            refine pm_iconst (v := (-1)) hC dX11_draw_66 ?_
            exact pm_iret hC hR pm_nar0 ⟨(-1), rfl, ⟨by omega, by omega⟩, hV0, (pm_fr.rf (ws := [0, 4, 9, 10, 11, 12, 13, 73, 74, 75, 76, 77]) (V := V0))⟩ dX11_draw_67
          · skip
            exfalso; omega
        · skip
          refine pm_iconst (v := 1) hC dX11_draw_26 ?_
          refine pm_goto (tgt := 31) hC dX11_draw_27 (by decide) ?_
          refine pm_istore (lv' := [(5, (0, 1)), (0, (3, 0)), (1, (0, a1)), (2, (0, a2)), (3, (0, a3)), (4, (0, a4))]) hC dX11_draw_31 (by decide) rfl ?_
          refine pm_iload hC 0 dX11_draw_33 rfl ?_
          refine pm_if_eq (tgt := 66) hC ⟨by decide, by decide⟩ dX11_draw_35 (by decide) (fun c19 => ?_) (fun c19 => ?_)
          · skip
            exfalso; omega
          · skip
            refine pm_iload hC 5 dX11_draw_38 rfl ?_
            refine pm_iconst (v := 1) hC dX11_draw_40 ?_
            refine pm_icmp_lt (tgt := 66) hC ⟨by omega, by omega⟩ ⟨by decide, by decide⟩ dX11_draw_41 (by decide) (fun c20 => ?_) (fun c20 => ?_)
            · skip
              refine pm_iconst (v := (-1)) hC dX11_draw_66 ?_
              exact pm_iret hC hR pm_nar0 ⟨(-1), rfl, ⟨by omega, by omega⟩, hV0, (pm_fr.rf (ws := [0, 4, 9, 10, 11, 12, 13, 73, 74, 75, 76, 77]) (V := V0))⟩ dX11_draw_67
            · skip
              refine pm_iload hC 5 dX11_draw_44 rfl ?_
              refine pm_bipush (v := 20) hC dX11_draw_46 (by decide) ?_
              refine pm_icmp_gt (tgt := 66) hC ⟨by omega, by omega⟩ ⟨by decide, by decide⟩ dX11_draw_48 (by decide) (fun c21 => ?_) (fun c21 => ?_)
              · skip
                refine pm_iconst (v := (-1)) hC dX11_draw_66 ?_
                exact pm_iret hC hR pm_nar0 ⟨(-1), rfl, ⟨by omega, by omega⟩, hV0, (pm_fr.rf (ws := [0, 4, 9, 10, 11, 12, 13, 73, 74, 75, 76, 77]) (V := V0))⟩ dX11_draw_67
              · skip
                refine pm_aload_n hC 1 (by decide) dX11_draw_51 rfl ?_
                have e22 : V0 0 3 = 4 := hV0.one 0 3 (by decide) (by decide) rfl
                refine pm_getf (v := 4) hC 0 fl_X11_24 rfl rfl (by decide) rfl e22 dX11_draw_52 ?_
                obtain ⟨y23, e24⟩ : ∃ y, V0 4 6 = y := ⟨_, rfl⟩
                have b25 := hV0.get 4 6 (lo := 0) (hi := 60) (by decide) (by decide) rfl
                rw [e24] at b25
                refine pm_getf (v := y23) hC 4 fl_X11_162 rfl rfl (by decide) rfl e24 dX11_draw_55 ?_
                refine pm_iload hC 5 dX11_draw_58 rfl ?_
                refine pm_iadd hC dX11_draw_60 ?_
                refine pm_bipush (v := 60) hC dX11_draw_61 (by decide) ?_
                refine pm_icmp_le (tgt := 68) hC ⟨by omega, by omega⟩ ⟨by decide, by decide⟩ dX11_draw_63 (by decide) (fun c26 => ?_) (fun c26 => ?_)
                · skip
                  refine pm_aload_n hC 1 (by decide) dX11_draw_68 rfl ?_
                  refine pm_iload_n hC 4 dX11_draw_69 rfl ?_
                  refine pm_i2l hC ⟨by omega, by omega⟩ dX11_draw_70 ?_
                  refine pm_putf hC 0 fl_X11_107 rfl rfl rfl (by decide) rfl trivial dX11_draw_71 ?_
                  refine pm_iconst (v := 0) hC dX11_draw_74 ?_
                  refine pm_istore (lv' := [(6, (0, 0)), (5, (0, 1)), (0, (3, 0)), (1, (0, a1)), (2, (0, a2)), (3, (0, a3)), (4, (0, a4))]) hC dX11_draw_75 (by decide) rfl ?_
                  have hV29 := (hV0.put 0 16 (x := a3) (lo := (-9223372036854775808)) (hi := 9223372036854775807) rfl ⟨by omega, by omega⟩)
                  have hF30 := ((pm_fr.rf (ws := [0, 4, 9, 10, 11, 12, 13, 73, 74, 75, 76, 77]) (V := V0)).up 0 16 a3 rfl)
                  obtain ⟨V27, hv28⟩ : ∃ V, V = (pm_up V0 0 16 a3) := ⟨_, rfl⟩
                  rw [← hv28] at hV29 hF30
                  rw [← hv28]
                  have e31 : V27 0 3 = 4 := by rw [hv28]; exact e22
                  have e32 : V27 4 6 = y23 := by rw [hv28]; exact e24
                  have e33 : V27 0 16 = a3 := by rw [hv28]; rfl
                  have L39 : ∀ (N41 : Nat) (x34 : Int) (V36 : pm_M), (0 ≤ x34 ∧ x34 ≤ 60) → pm_ok 0 90 V36 → pm_fr [0, 4, 9, 10, 11, 12, 13, 73, 74, 75, 76, 77] V0 V36 → (Int.toNat (60 - x34)) = N41 → pm_J X 77 [(0, (3, 0)), (1, (0, a1)), (2, (0, a2)), (3, (0, a3)), (4, (0, a4)), (5, (0, 1)), (6, (0, x34))] [] 118 V36 := by
                    intro N41
                    induction N41 using Nat.strongRecOn with
                    | _ N41 ih42 =>
                    intro x34 V36 b35 hV37 hF38 hm40
                    refine pm_iload hC 6 dX11_draw_77 rfl ?_
                    refine pm_iload hC 4 dX11_draw_79 rfl ?_
                    refine pm_icmp_ge (tgt := 96) hC ⟨by omega, by omega⟩ ⟨by omega, by omega⟩ dX11_draw_81 (by decide) (fun c43 => ?_) (fun c43 => ?_)
                    · skip
                      refine pm_aload_n hC 0 (by decide) dX11_draw_96 rfl ?_
                      have e44 : V36 0 3 = 4 := hV37.one 0 3 (by decide) (by decide) rfl
                      refine pm_getf (v := 4) hC 0 fl_X11_24 rfl rfl (by decide) rfl e44 dX11_draw_97 ?_
                      obtain ⟨y45, e46⟩ : ∃ y, V36 4 6 = y := ⟨_, rfl⟩
                      have b47 := hV37.get 4 6 (lo := 0) (hi := 60) (by decide) (by decide) rfl
                      rw [e46] at b47
                      refine pm_getf (v := y45) hC 4 fl_X11_162 rfl rfl (by decide) rfl e46 dX11_draw_100 ?_
                      exact pm_iret hC hR pm_nar0 ⟨y45, rfl, ⟨by omega, by omega⟩, hV37, hF38⟩ dX11_draw_103
                    · skip
                      refine pm_aload_n hC 0 (by decide) dX11_draw_84 rfl ?_
                      refine pm_iload_n hC 1 dX11_draw_85 rfl ?_
                      refine pm_iload_n hC 2 dX11_draw_86 rfl ?_
                      refine pm_callV (ci := 11) (as := [(0, a1), (0, a2)]) (st := []) hC 0 (c_X11_drawAnswer_0 a1 a2 ⟨by omega, by omega⟩ ⟨by omega, by omega⟩) lm_X11_332 li_X11_drawAnswer (by decide) (by decide) rfl rfl rfl (by decide) rfl rfl (Nat.le_of_ble_eq_true rfl) ⟨Nat.le_refl _, Or.inl rfl⟩ dX11_draw_87 ⟨rfl, hV37⟩ (fun r48 V49 hp50 => ?_)
                      obtain ⟨rfl, hV51, hF52⟩ := hp50
                      change pm_J X 90 [(0, (3, 0)), (1, (0, a1)), (2, (0, a2)), (3, (0, a3)), (4, (0, a4)), (5, (0, 1)), (6, (0, x34))] [] 118 V49
                      have hF53 := pm_fr.tr hF38 hF52 (by decide)
                      obtain ⟨x54, ei55⟩ : ∃ y : Int, x34 + 1 = y := ⟨_, rfl⟩
                      refine pm_iinc (y := x54) (lv' := [(6, (0, x54)), (0, (3, 0)), (1, (0, a1)), (2, (0, a2)), (3, (0, a3)), (4, (0, a4)), (5, (0, 1))]) hC 6 dX11_draw_90 (by decide) rfl ei55 rfl ?_
                      refine pm_goto (tgt := 77) hC dX11_draw_93 (by decide) ?_
                      refine pm_lvsub [1, 2, 3, 4, 5, 6, 0] (lv' := [(0, (3, 0)), (1, (0, a1)), (2, (0, a2)), (3, (0, a3)), (4, (0, a4)), (5, (0, 1)), (6, (0, x54))]) rfl ?_
                      exact ih42 _ (by omega) x54 V49 ⟨by omega, by omega⟩ hV51 hF53 rfl
                  refine pm_lvsub [2, 3, 4, 5, 6, 1, 0] (lv' := [(0, (3, 0)), (1, (0, a1)), (2, (0, a2)), (3, (0, a3)), (4, (0, a4)), (5, (0, 1)), (6, (0, 0))]) rfl ?_
                  exact L39 _ 0 V27 ⟨by decide, by decide⟩ hV29 hF30 rfl
                · skip
                  refine pm_iconst (v := (-1)) hC dX11_draw_66 ?_
                  exact pm_iret hC hR pm_nar0 ⟨(-1), rfl, ⟨by omega, by omega⟩, hV0, (pm_fr.rf (ws := [0, 4, 9, 10, 11, 12, 13, 73, 74, 75, 76, 77]) (V := V0))⟩ dX11_draw_67
