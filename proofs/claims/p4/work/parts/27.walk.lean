set_option maxHeartbeats 4000000 in
set_option maxRecDepth 100000 in
theorem c_X11_knowing_0 (a1 a2 a3 a4 : Int) (h0 : (-2147483648) ≤ a1 ∧ a1 ≤ 2147483647) (h1 : (-2147483648) ≤ a2 ∧ a2 ≤ 2147483647) (h2 : (-2147483648) ≤ a3 ∧ a3 ≤ 2147483647) (h3 : (-2147483648) ≤ a4 ∧ a4 ≤ 2147483647) : pm_K 6 yX11_knowing cX11_knowing 6 (some .int) (fun av V => av = [(3, 0), (0, a1), (0, a2), (0, a3), (0, a4)] ∧ pm_ok 0 90 V) (fun _ V r V' => ∃ y, r = some (0, y) ∧ ((-1) ≤ y ∧ y ≤ 1) ∧ pm_ok 0 90 V' ∧ pm_fr [73, 74, 75, 76, 77] V V') := by
  refine pm_MT.of (by decide) ⟨Nat.le_refl _, by decide⟩ (fun av V h => by rw [h.1]; exact (by decide : pm_words [(3, 0), (0, 0), (0, 0), (0, 0), (0, 0)] ≤ 6)) ?_
  rintro X av V0 hC - hR ⟨rfl, hV0⟩
  change pm_J X 0 [(0, (3, 0)), (1, (0, a1)), (2, (0, a2)), (3, (0, a3)), (4, (0, a4))] [] 118 V0
  refine pm_aload_n hC 0 (by decide) dX11_knowing_0 rfl ?_
  refine pm_iload_n hC 1 dX11_knowing_1 rfl ?_
  refine pm_iload_n hC 2 dX11_knowing_2 rfl ?_
  refine pm_iload_n hC 3 dX11_knowing_3 rfl ?_
  refine pm_iload hC 4 dX11_knowing_4 rfl ?_
  refine pm_callV (ci := 11) (as := [(0, a1), (0, a2), (0, a3), (0, a4)]) (st := []) hC 0 (c_X11_weighs_0 a1 a2 a3 a4 ⟨by omega, by omega⟩ ⟨by omega, by omega⟩ ⟨by omega, by omega⟩ ⟨by omega, by omega⟩) lm_X11_201 li_X11_weighs (by decide) (by decide) rfl rfl rfl (by decide) rfl rfl (Nat.le_of_ble_eq_true rfl) ⟨Nat.le_refl _, Or.inl rfl⟩ dX11_knowing_6 ⟨rfl, hV0⟩ (fun r1 V2 hp3 => ?_)
  obtain ⟨y4, rfl, b5, hV6, hF7⟩ := hp3
  change pm_J X 9 [(0, (3, 0)), (1, (0, a1)), (2, (0, a2)), (3, (0, a3)), (4, (0, a4))] [(0, y4)] 118 V2
  have hF8 := pm_fr.tr (pm_fr.rf (ws := [73, 74, 75, 76, 77]) (V := V0)) hF7 (by decide)
  refine pm_if_ne (tgt := 14) hC ⟨by omega, by omega⟩ dX11_knowing_9 (by decide) (fun c9 => ?_) (fun c9 => ?_)
  · skip
    refine pm_aload_n hC 0 (by decide) dX11_knowing_14 rfl ?_
    have e10 : V2 0 5 = 73 := hV6.one 0 5 (by decide) (by decide) rfl
    refine pm_getf (v := 73) hC 0 fl_X11_75 rfl rfl (by decide) rfl e10 dX11_knowing_15 ?_
    refine pm_callV (ci := 10) (as := []) (st := []) hC 73 c_X10_mostLikely_73 lm_X11_221 li_X10_mostLikely (by decide) (by decide) rfl rfl rfl (by decide) rfl rfl (Nat.le_of_ble_eq_true rfl) ⟨Nat.le_refl _, Or.inl rfl⟩ dX11_knowing_18 ⟨rfl, hV6⟩ (fun r11 V12 hp13 => ?_)
    obtain ⟨y14, rfl, b15, rfl⟩ := hp13
    change pm_J X 21 [(0, (3, 0)), (1, (0, a1)), (2, (0, a2)), (3, (0, a3)), (4, (0, a4))] [(0, y14)] 118 V2
    refine pm_istore (lv' := [(5, (0, y14)), (0, (3, 0)), (1, (0, a1)), (2, (0, a2)), (3, (0, a3)), (4, (0, a4))]) hC dX11_knowing_21 (by decide) rfl ?_
    refine pm_aload_n hC 1 (by decide) dX11_knowing_23 rfl ?_
    refine pm_getf (v := 73) hC 0 fl_X11_75 rfl rfl (by decide) rfl e10 dX11_knowing_24 ?_
    refine pm_iconst (v := 0) hC dX11_knowing_27 ?_
    refine pm_iload hC 5 dX11_knowing_28 rfl ?_
    refine pm_callV (ci := 10) (as := [(0, 0), (0, a4)]) (st := []) hC 73 (c_X10_trustAt_73 0 a4 ⟨by decide, by decide⟩ ⟨by omega, by omega⟩) lm_X11_306 li_X10_trustAt (by decide) (by decide) rfl rfl rfl (by decide) rfl rfl (Nat.le_of_ble_eq_true rfl) ⟨Nat.le_refl _, Or.inl rfl⟩ dX11_knowing_30 ⟨rfl, hV6⟩ (fun r16 V17 hp18 => ?_)
    obtain ⟨rfl, hV19, hF20⟩ := hp18
    change pm_J X 33 [(5, (0, y14)), (0, (3, 0)), (1, (0, a1)), (2, (0, a2)), (3, (0, a3)), (4, (0, a4))] [] 118 V17
    have hF21 := pm_fr.tr hF8 hF20 (by decide)
    have e22 : V17 0 5 = 73 := by rw [hF20 0 (by decide)]; exact e10
    refine pm_aload_n hC 1 (by decide) dX11_knowing_33 rfl ?_
    refine pm_getf (v := 73) hC 0 fl_X11_75 rfl rfl (by decide) rfl e22 dX11_knowing_34 ?_
    refine pm_iload_n hC 2 dX11_knowing_37 rfl ?_
    refine pm_callV (ci := 10) (as := [(0, a1)]) (st := []) hC 73 (c_X10_weigh_73 a1 ⟨by omega, by omega⟩) lm_X11_294 li_X10_weigh (by decide) (by decide) rfl rfl rfl (by decide) rfl rfl (Nat.le_of_ble_eq_true rfl) ⟨Nat.le_refl _, Or.inl rfl⟩ dX11_knowing_38 ⟨rfl, hV19⟩ (fun r23 V24 hp25 => ?_)
    obtain ⟨rfl, hV26, hF27⟩ := hp25
    change pm_J X 41 [(5, (0, y14)), (0, (3, 0)), (1, (0, a1)), (2, (0, a2)), (3, (0, a3)), (4, (0, a4))] [] 118 V24
    have hF28 := pm_fr.tr hF21 hF27 (by decide)
    have e29 : V24 0 5 = 73 := by rw [hF27 0 (by decide)]; exact e22
    refine pm_aload_n hC 1 (by decide) dX11_knowing_41 rfl ?_
    refine pm_getf (v := 73) hC 0 fl_X11_75 rfl rfl (by decide) rfl e29 dX11_knowing_42 ?_
    refine pm_callV (ci := 10) (as := []) (st := []) hC 73 c_X10_mostLikely_73 lm_X11_221 li_X10_mostLikely (by decide) (by decide) rfl rfl rfl (by decide) rfl rfl (Nat.le_of_ble_eq_true rfl) ⟨Nat.le_refl _, Or.inl rfl⟩ dX11_knowing_45 ⟨rfl, hV26⟩ (fun r30 V31 hp32 => ?_)
    obtain ⟨y33, rfl, b34, rfl⟩ := hp32
    change pm_J X 48 [(5, (0, y14)), (0, (3, 0)), (1, (0, a1)), (2, (0, a2)), (3, (0, a3)), (4, (0, a4))] [(0, y33)] 118 V24
    refine pm_iload hC 0 dX11_knowing_48 rfl ?_
    refine pm_icmp_ne (tgt := 57) hC ⟨by omega, by omega⟩ ⟨by omega, by omega⟩ dX11_knowing_50 (by decide) (fun c35 => ?_) (fun c35 => ?_)
    · skip
      refine pm_iconst (v := 0) hC dX11_knowing_57 ?_
      exact pm_iret hC hR pm_nar0 ⟨0, rfl, ⟨by omega, by omega⟩, hV26, hF28⟩ dX11_knowing_58
    · skip
      refine pm_iconst (v := 1) hC dX11_knowing_53 ?_
      refine pm_goto (tgt := 58) hC dX11_knowing_54 (by decide) ?_
      exact pm_iret hC hR pm_nar0 ⟨1, rfl, ⟨by omega, by omega⟩, hV26, hF28⟩ dX11_knowing_58
  · skip
    refine pm_iconst (v := (-1)) hC dX11_knowing_12 ?_
    exact pm_iret hC hR pm_nar0 ⟨(-1), rfl, ⟨by omega, by omega⟩, hV6, hF8⟩ dX11_knowing_13
set_option maxHeartbeats 4000000 in
set_option maxRecDepth 100000 in
theorem c_X11_fillAtoms_0 (a1 : Int) (h0 : (-99) ≤ a1 ∧ a1 ≤ 99) : pm_K 5 yX11_fillAtoms cX11_fillAtoms 2 none (fun av V => av = [(3, 0), (0, a1)] ∧ pm_ok 0 90 V) (fun _ V r V' => r = none ∧ pm_ok 0 90 V' ∧ pm_fr [73, 76, 77, 83] V V') := by
  refine pm_MT.of (by decide) ⟨Nat.le_refl _, by decide⟩ (fun av V h => by rw [h.1]; exact (by decide : pm_words [(3, 0), (0, 0)] ≤ 2)) ?_
  rintro X av V0 hC - hR ⟨rfl, hV0⟩
  change pm_J X 0 [(0, (3, 0)), (1, (0, a1))] [] 118 V0
  refine pm_aload_n hC 0 (by decide) dX11_fillAtoms_0 rfl ?_
  have e1 : V0 0 5 = 73 := hV0.one 0 5 (by decide) (by decide) rfl
  refine pm_getf (v := 73) hC 0 fl_X11_75 rfl rfl (by decide) rfl e1 dX11_fillAtoms_1 ?_
  refine pm_iconst (v := 4) hC dX11_fillAtoms_4 ?_
  refine pm_callV (ci := 10) (as := [(0, 4)]) (st := []) hC 73 (c_X10_weigh_73 4 ⟨by decide, by decide⟩) lm_X11_294 li_X10_weigh (by decide) (by decide) rfl rfl rfl (by decide) rfl rfl (Nat.le_of_ble_eq_true rfl) ⟨Nat.le_refl _, Or.inl rfl⟩ dX11_fillAtoms_5 ⟨rfl, hV0⟩ (fun r2 V3 hp4 => ?_)
  obtain ⟨rfl, hV5, hF6⟩ := hp4
  change pm_J X 8 [(0, (3, 0)), (1, (0, a1))] [] 118 V3
  have hF7 := pm_fr.tr (pm_fr.rf (ws := [73, 76, 77, 83]) (V := V0)) hF6 (by decide)
  have e8 : V3 0 5 = 73 := by rw [hF6 0 (by decide)]; exact e1
  refine pm_aload_n hC 0 (by decide) dX11_fillAtoms_8 rfl ?_
  have e9 : V3 0 7 = 83 := hV5.one 0 7 (by decide) (by decide) rfl
  refine pm_getf (v := 83) hC 0 fl_X11_86 rfl rfl (by decide) rfl e9 dX11_fillAtoms_9 ?_
  refine pm_iconst (v := 0) hC dX11_fillAtoms_12 ?_
  refine pm_aload_n hC 0 (by decide) dX11_fillAtoms_13 rfl ?_
  refine pm_getf (v := 73) hC 0 fl_X11_75 rfl rfl (by decide) rfl e8 dX11_fillAtoms_14 ?_
  refine pm_iconst (v := 3) hC dX11_fillAtoms_17 ?_
  refine pm_callV (ci := 10) (as := [(0, 3)]) (st := [(0, 0), (3, 83)]) hC 73 (c_X10_chanceOfKind_73 3 ⟨by decide, by decide⟩) lm_X11_218 li_X10_chanceOfKind (by decide) (by decide) rfl rfl rfl (by decide) rfl rfl (Nat.le_of_ble_eq_true rfl) ⟨Nat.le_refl _, Or.inl rfl⟩ dX11_fillAtoms_18 ⟨rfl, hV5⟩ (fun r10 V11 hp12 => ?_)
  obtain ⟨y13, rfl, b14, rfl⟩ := hp12
  change pm_J X 21 [(0, (3, 0)), (1, (0, a1))] [(0, y13), (0, 0), (3, 83)] 118 V3
  refine pm_i2l hC ⟨by omega, by omega⟩ dX11_fillAtoms_21 ?_
  refine pm_lastore (len := 7) hC 83 rfl rfl (by decide) ⟨by decide, by decide⟩ (by decide) dX11_fillAtoms_22 ?_
  refine pm_aload_n hC 0 (by decide) dX11_fillAtoms_23 rfl ?_
  refine pm_getf (v := 83) hC 0 fl_X11_86 rfl rfl (by decide) rfl e9 dX11_fillAtoms_24 ?_
  refine pm_iconst (v := 1) hC dX11_fillAtoms_27 ?_
  refine pm_aload_n hC 0 (by decide) dX11_fillAtoms_28 rfl ?_
  refine pm_getf (v := 73) hC 0 fl_X11_75 rfl rfl (by decide) rfl e8 dX11_fillAtoms_29 ?_
  refine pm_callV (ci := 10) (as := []) (st := [(0, 1), (3, 83)]) hC 73 c_X10_chanceNoticed_73 lm_X11_233 li_X10_chanceNoticed (by decide) (by decide) rfl rfl rfl (by decide) rfl rfl (Nat.le_of_ble_eq_true rfl) ⟨Nat.le_refl _, Or.inl rfl⟩ dX11_fillAtoms_32 ⟨rfl, (hV5.put 83 (0 : Int).toNat (x := y13) (lo := (-9223372036854775808)) (hi := 9223372036854775807) rfl ⟨by omega, by omega⟩)⟩ (fun r15 V16 hp17 => ?_)
  obtain ⟨y18, rfl, b19, rfl⟩ := hp17
  change pm_J X 35 [(0, (3, 0)), (1, (0, a1))] [(0, y18), (0, 1), (3, 83)] 118 (pm_up V3 83 (0 : Int).toNat y13)
  refine pm_i2l hC ⟨by omega, by omega⟩ dX11_fillAtoms_35 ?_
  refine pm_lastore (len := 7) hC 83 rfl rfl (by decide) ⟨by decide, by decide⟩ (by decide) dX11_fillAtoms_36 ?_
  refine pm_aload_n hC 0 (by decide) dX11_fillAtoms_37 rfl ?_
  refine pm_getf (v := 83) hC 0 fl_X11_86 rfl rfl (by decide) rfl e9 dX11_fillAtoms_38 ?_
  refine pm_iconst (v := 2) hC dX11_fillAtoms_41 ?_
  refine pm_aload_n hC 0 (by decide) dX11_fillAtoms_42 rfl ?_
  refine pm_getf (v := 73) hC 0 fl_X11_75 rfl rfl (by decide) rfl e8 dX11_fillAtoms_43 ?_
  refine pm_aload_n hC 0 (by decide) dX11_fillAtoms_46 rfl ?_
  refine pm_getf (v := 73) hC 0 fl_X11_75 rfl rfl (by decide) rfl e8 dX11_fillAtoms_47 ?_
  obtain ⟨y20, e21⟩ : ∃ y, V3 73 1 = y := ⟨_, rfl⟩
  have b22 := hV5.get 73 1 (lo := 0) (hi := 8) (by decide) (by decide) rfl
  rw [e21] at b22
  refine pm_getf (v := y20) hC 73 fl_X11_354 rfl rfl (by decide) rfl e21 dX11_fillAtoms_50 ?_
  refine pm_callV (ci := 10) (as := [(0, y20)]) (st := [(0, 2), (3, 83)]) hC 73 (c_X10_chanceOf_73 y20 ⟨by omega, by omega⟩) lm_X11_211 li_X10_chanceOf (by decide) (by decide) rfl rfl rfl (by decide) rfl rfl (Nat.le_of_ble_eq_true rfl) ⟨Nat.le_refl _, Or.inl rfl⟩ dX11_fillAtoms_53 ⟨rfl, ((hV5.put 83 (0 : Int).toNat (x := y13) (lo := (-9223372036854775808)) (hi := 9223372036854775807) rfl ⟨by omega, by omega⟩).put 83 (1 : Int).toNat (x := y18) (lo := (-9223372036854775808)) (hi := 9223372036854775807) rfl ⟨by omega, by omega⟩)⟩ (fun r23 V24 hp25 => ?_)
  obtain ⟨y26, rfl, b27, rfl⟩ := hp25
  change pm_J X 56 [(0, (3, 0)), (1, (0, a1))] [(0, y26), (0, 2), (3, 83)] 118 (pm_up (pm_up V3 83 (0 : Int).toNat y13) 83 (1 : Int).toNat y18)
  refine pm_i2l hC ⟨by omega, by omega⟩ dX11_fillAtoms_56 ?_
  refine pm_lastore (len := 7) hC 83 rfl rfl (by decide) ⟨by decide, by decide⟩ (by decide) dX11_fillAtoms_57 ?_
  refine pm_aload_n hC 0 (by decide) dX11_fillAtoms_58 rfl ?_
  refine pm_getf (v := 83) hC 0 fl_X11_86 rfl rfl (by decide) rfl e9 dX11_fillAtoms_59 ?_
  refine pm_iconst (v := 3) hC dX11_fillAtoms_62 ?_
  refine pm_aload_n hC 0 (by decide) dX11_fillAtoms_63 rfl ?_
  refine pm_getf (v := 73) hC 0 fl_X11_75 rfl rfl (by decide) rfl e8 dX11_fillAtoms_64 ?_
  refine pm_aload_n hC 0 (by decide) dX11_fillAtoms_67 rfl ?_
  refine pm_getf (v := 73) hC 0 fl_X11_75 rfl rfl (by decide) rfl e8 dX11_fillAtoms_68 ?_
  obtain ⟨y28, e29⟩ : ∃ y, V3 73 2 = y := ⟨_, rfl⟩
  have b30 := hV5.get 73 2 (lo := 0) (hi := 8) (by decide) (by decide) rfl
  rw [e29] at b30
  refine pm_getf (v := y28) hC 73 fl_X11_357 rfl rfl (by decide) rfl e29 dX11_fillAtoms_71 ?_
  refine pm_callV (ci := 10) (as := [(0, y28)]) (st := [(0, 3), (3, 83)]) hC 73 (c_X10_chanceOf_73 y28 ⟨by omega, by omega⟩) lm_X11_211 li_X10_chanceOf (by decide) (by decide) rfl rfl rfl (by decide) rfl rfl (Nat.le_of_ble_eq_true rfl) ⟨Nat.le_refl _, Or.inl rfl⟩ dX11_fillAtoms_74 ⟨rfl, (((hV5.put 83 (0 : Int).toNat (x := y13) (lo := (-9223372036854775808)) (hi := 9223372036854775807) rfl ⟨by omega, by omega⟩).put 83 (1 : Int).toNat (x := y18) (lo := (-9223372036854775808)) (hi := 9223372036854775807) rfl ⟨by omega, by omega⟩).put 83 (2 : Int).toNat (x := y26) (lo := (-9223372036854775808)) (hi := 9223372036854775807) rfl ⟨by omega, by omega⟩)⟩ (fun r31 V32 hp33 => ?_)
  obtain ⟨y34, rfl, b35, rfl⟩ := hp33
  change pm_J X 77 [(0, (3, 0)), (1, (0, a1))] [(0, y34), (0, 3), (3, 83)] 118 (pm_up (pm_up (pm_up V3 83 (0 : Int).toNat y13) 83 (1 : Int).toNat y18) 83 (2 : Int).toNat y26)
  refine pm_i2l hC ⟨by omega, by omega⟩ dX11_fillAtoms_77 ?_
  refine pm_lastore (len := 7) hC 83 rfl rfl (by decide) ⟨by decide, by decide⟩ (by decide) dX11_fillAtoms_78 ?_
  refine pm_aload_n hC 0 (by decide) dX11_fillAtoms_79 rfl ?_
  refine pm_getf (v := 83) hC 0 fl_X11_86 rfl rfl (by decide) rfl e9 dX11_fillAtoms_80 ?_
  refine pm_iconst (v := 4) hC dX11_fillAtoms_83 ?_
  refine pm_aload_n hC 0 (by decide) dX11_fillAtoms_84 rfl ?_
  refine pm_getf (v := 73) hC 0 fl_X11_75 rfl rfl (by decide) rfl e8 dX11_fillAtoms_85 ?_
  obtain ⟨y36, e37⟩ : ∃ y, V3 73 3 = y := ⟨_, rfl⟩
  have b38 := hV5.get 73 3 (lo := 0) (hi := 9) (by decide) (by decide) rfl
  rw [e37] at b38
  refine pm_getf (v := y36) hC 73 fl_X11_360 rfl rfl (by decide) rfl e37 dX11_fillAtoms_88 ?_
  refine pm_i2l hC ⟨by omega, by omega⟩ dX11_fillAtoms_91 ?_
  refine pm_lastore (len := 7) hC 83 rfl rfl (by decide) ⟨by decide, by decide⟩ (by decide) dX11_fillAtoms_92 ?_
  refine pm_aload_n hC 0 (by decide) dX11_fillAtoms_93 rfl ?_
  refine pm_getf (v := 83) hC 0 fl_X11_86 rfl rfl (by decide) rfl e9 dX11_fillAtoms_94 ?_
  refine pm_iconst (v := 5) hC dX11_fillAtoms_97 ?_
  refine pm_aload_n hC 0 (by decide) dX11_fillAtoms_98 rfl ?_
  refine pm_getf (v := 73) hC 0 fl_X11_75 rfl rfl (by decide) rfl e8 dX11_fillAtoms_99 ?_
  obtain ⟨y39, e40⟩ : ∃ y, V3 73 4 = y := ⟨_, rfl⟩
  have b41 := hV5.get 73 4 (lo := 0) (hi := 9) (by decide) (by decide) rfl
  rw [e40] at b41
  refine pm_getf (v := y39) hC 73 fl_X11_363 rfl rfl (by decide) rfl e40 dX11_fillAtoms_102 ?_
  refine pm_i2l hC ⟨by omega, by omega⟩ dX11_fillAtoms_105 ?_
  refine pm_lastore (len := 7) hC 83 rfl rfl (by decide) ⟨by decide, by decide⟩ (by decide) dX11_fillAtoms_106 ?_
  refine pm_aload_n hC 0 (by decide) dX11_fillAtoms_107 rfl ?_
  refine pm_getf (v := 83) hC 0 fl_X11_86 rfl rfl (by decide) rfl e9 dX11_fillAtoms_108 ?_
  refine pm_bipush (v := 6) hC dX11_fillAtoms_111 (by decide) ?_
  refine pm_iload_n hC 1 dX11_fillAtoms_113 rfl ?_
  refine pm_mabs hC 4214 4015 1018 4016 ⟨by omega, by omega⟩ (by decide) wL_X11_366 wS_mabs wI_math wC_mabs (Nat.le_of_ble_eq_true rfl) dX11_fillAtoms_114 (fun y42 b43 => ?_)
  have b43 := And.intro b43.1.1 (And.intro b43.1.2 b43.2)
  refine pm_i2l hC ⟨by omega, by omega⟩ dX11_fillAtoms_117 ?_
  refine pm_lastore (len := 7) hC 83 rfl rfl (by decide) ⟨by decide, by decide⟩ (by decide) dX11_fillAtoms_118 ?_
  exact pm_vret hC hR ⟨rfl, (((((((hV5.put 83 (0 : Int).toNat (x := y13) (lo := (-9223372036854775808)) (hi := 9223372036854775807) rfl ⟨by omega, by omega⟩).put 83 (1 : Int).toNat (x := y18) (lo := (-9223372036854775808)) (hi := 9223372036854775807) rfl ⟨by omega, by omega⟩).put 83 (2 : Int).toNat (x := y26) (lo := (-9223372036854775808)) (hi := 9223372036854775807) rfl ⟨by omega, by omega⟩).put 83 (3 : Int).toNat (x := y34) (lo := (-9223372036854775808)) (hi := 9223372036854775807) rfl ⟨by omega, by omega⟩).put 83 (4 : Int).toNat (x := y36) (lo := (-9223372036854775808)) (hi := 9223372036854775807) rfl ⟨by omega, by omega⟩).put 83 (5 : Int).toNat (x := y39) (lo := (-9223372036854775808)) (hi := 9223372036854775807) rfl ⟨by omega, by omega⟩).put 83 (6 : Int).toNat (x := y42) (lo := (-9223372036854775808)) (hi := 9223372036854775807) rfl ⟨by omega, by omega⟩), (((((((hF7.up 83 (0 : Int).toNat y13 rfl).up 83 (1 : Int).toNat y18 rfl).up 83 (2 : Int).toNat y26 rfl).up 83 (3 : Int).toNat y34 rfl).up 83 (4 : Int).toNat y36 rfl).up 83 (5 : Int).toNat y39 rfl).up 83 (6 : Int).toNat y42 rfl)⟩ dX11_fillAtoms_119
set_option maxHeartbeats 4000000 in
set_option maxRecDepth 100000 in
theorem c_X2_pop_57  : pm_K 1 yX2_pop cX2_pop 1 (some .long) (fun av V => av = [(3, 57)] ∧ pm_ok 0 90 V) (fun _ V r V' => ∃ y, r = some (1, y) ∧ ((-9223372036854775808) ≤ y ∧ y ≤ 9223372036854775807) ∧ pm_ok 0 90 V' ∧ pm_fr [57] V V') := by
  refine pm_MT.of (by decide) ⟨Nat.le_refl _, by decide⟩ (fun av V h => by rw [h.1]; exact (by decide : pm_words [(3, 0)] ≤ 1)) ?_
  rintro X av V0 hC - hR ⟨rfl, hV0⟩
  change pm_J X 0 [(0, (3, 57))] [] 118 V0
  refine pm_aload_n hC 0 (by decide) dX2_pop_0 rfl ?_
  obtain ⟨y1, e2⟩ : ∃ y, V0 57 7 = y := ⟨_, rfl⟩
  have b3 := hV0.get 57 7 (lo := 0) (hi := 64) (by decide) (by decide) rfl
  rw [e2] at b3
  refine pm_getf (v := y1) hC 57 fl_X2_35 rfl rfl (by decide) rfl e2 dX2_pop_1 ?_
  refine pm_if_gt (tgt := 9) hC ⟨by omega, by omega⟩ dX2_pop_4 (by decide) (fun c4 => ?_) (fun c4 => ?_)
  · skip
    refine pm_aload_n hC 0 (by decide) dX2_pop_9 rfl ?_
    refine pm_dup hC rfl dX2_pop_10 ?_
    refine pm_getf (v := y1) hC 57 fl_X2_35 rfl rfl (by decide) rfl e2 dX2_pop_11 ?_
    refine pm_iconst (v := 1) hC dX2_pop_14 ?_
    refine pm_isub hC dX2_pop_15 ?_
    refine pm_putf hC 57 fl_X2_35 rfl rfl rfl (by decide) rfl trivial dX2_pop_16 ?_
    refine pm_aload_n hC 0 (by decide) dX2_pop_19 rfl ?_
    have e5 : V0 57 6 = 62 := hV0.one 57 6 (by decide) (by decide) rfl
    refine pm_getf (v := 62) hC 57 fl_X2_31 rfl rfl (by decide) rfl e5 dX2_pop_20 ?_
    refine pm_aload_n hC 0 (by decide) dX2_pop_23 rfl ?_
    refine pm_getf (v := (y1 - 1)) hC 57 fl_X2_35 rfl rfl (by decide) rfl rfl dX2_pop_24 ?_
    obtain ⟨y6, e7⟩ : ∃ y, V0 62 ((y1 - 1) : Int).toNat = y := ⟨_, rfl⟩
    have b8 := hV0.get 62 ((y1 - 1) : Int).toNat (lo := (-9223372036854775808)) (hi := 9223372036854775807) (by decide) (show _ < 64 by omega) rfl
    rw [e7] at b8
    refine pm_laload (len := 64) (v := y6) hC 62 rfl rfl (by decide) ⟨by omega, by omega⟩ (by decide) e7 dX2_pop_27 ?_
    exact pm_lret hC hR ⟨y6, rfl, ⟨by omega, by omega⟩, (hV0.put 57 7 (x := (y1 - 1)) (lo := 0) (hi := 64) rfl ⟨by omega, by omega⟩), ((pm_fr.rf (ws := [57]) (V := V0)).up 57 7 (y1 - 1) rfl)⟩ dX2_pop_28
  · skip
    refine pm_lconst (x := 0) hC dX2_pop_7 rfl ?_
    exact pm_lret hC hR ⟨0, rfl, ⟨by omega, by omega⟩, hV0, (pm_fr.rf (ws := [57]) (V := V0))⟩ dX2_pop_8
set_option maxHeartbeats 4000000 in
set_option maxRecDepth 100000 in
theorem c_X2_bounded (a1 : Int) (h0 : (-9223372036854775808) ≤ a1 ∧ a1 ≤ 9223372036854775807) : pm_K 1 yX2_bounded cX2_bounded 2 (some .long) (fun av V => av = [(1, a1)] ∧ pm_ok 0 90 V) (fun _ V r V' => ∃ y, r = some (1, y) ∧ ((-1000000) ≤ y ∧ y ≤ 1000000) ∧ V = V') := by
  refine pm_MT.of (by decide) ⟨Nat.le_refl _, by decide⟩ (fun av V h => by rw [h.1]; exact (by decide : pm_words [(1, 0)] ≤ 2)) ?_
  rintro X av V0 hC - hR ⟨rfl, hV0⟩
  change pm_J X 0 [(0, (1, a1))] [] 118 V0
  refine pm_ldc2 (v := (-1000000)) hC 5074 dX2_bounded_0 (by decide +kernel) ?_
  refine pm_ldc2 (v := 1000000) hC 5075 dX2_bounded_3 (by decide +kernel) ?_
  refine pm_lload_n hC 0 dX2_bounded_6 rfl ?_
  refine pm_mminL hC 5076 5077 1018 5078 ⟨by decide, by decide⟩ ⟨by omega, by omega⟩ (by decide) wL_X2_58 wS_mminL wI_math wC_mminL (Nat.le_of_ble_eq_true rfl) dX2_bounded_7 (fun y1 b2 => ?_)
  refine pm_mmaxL hC 5079 4169 1018 4170 ⟨by decide, by decide⟩ ⟨by omega, by omega⟩ (by decide) wL_X2_64 wS_mmaxL wI_math wC_mmaxL (Nat.le_of_ble_eq_true rfl) dX2_bounded_10 (fun y3 b4 => ?_)
  exact pm_lret hC hR ⟨y3, rfl, ⟨by omega, by omega⟩, rfl⟩ dX2_bounded_13
set_option maxHeartbeats 4000000 in
set_option maxRecDepth 100000 in
theorem c_X2_push_57 (a1 : Int) (h0 : (-9223372036854775808) ≤ a1 ∧ a1 ≤ 9223372036854775807) : pm_K 1 yX2_push cX2_push 3 none (fun av V => av = [(3, 57), (1, a1)] ∧ pm_ok 0 90 V) (fun _ V r V' => r = none ∧ pm_ok 0 90 V' ∧ pm_fr [57, 62] V V') := by
  refine pm_MT.of (by decide) ⟨Nat.le_refl _, by decide⟩ (fun av V h => by rw [h.1]; exact (by decide : pm_words [(3, 0), (1, 0)] ≤ 3)) ?_
  rintro X av V0 hC - hR ⟨rfl, hV0⟩
  change pm_J X 0 [(0, (3, 57)), (1, (1, a1))] [] 118 V0
  refine pm_aload_n hC 0 (by decide) dX2_push_0 rfl ?_
  obtain ⟨y1, e2⟩ : ∃ y, V0 57 7 = y := ⟨_, rfl⟩
  have b3 := hV0.get 57 7 (lo := 0) (hi := 64) (by decide) (by decide) rfl
  rw [e2] at b3
  refine pm_getf (v := y1) hC 57 fl_X2_35 rfl rfl (by decide) rfl e2 dX2_push_1 ?_
  refine pm_bipush (v := 64) hC dX2_push_4 (by decide) ?_
  refine pm_icmp_ge (tgt := 29) hC ⟨by omega, by omega⟩ ⟨by decide, by decide⟩ dX2_push_6 (by decide) (fun c4 => ?_) (fun c4 => ?_)
  · skip
    exact pm_vret hC hR ⟨rfl, hV0, (pm_fr.rf (ws := [57, 62]) (V := V0))⟩ dX2_push_29
  · skip
    refine pm_aload_n hC 0 (by decide) dX2_push_9 rfl ?_
    have e5 : V0 57 6 = 62 := hV0.one 57 6 (by decide) (by decide) rfl
    refine pm_getf (v := 62) hC 57 fl_X2_31 rfl rfl (by decide) rfl e5 dX2_push_10 ?_
    refine pm_aload_n hC 0 (by decide) dX2_push_13 rfl ?_
    refine pm_getf (v := y1) hC 57 fl_X2_35 rfl rfl (by decide) rfl e2 dX2_push_14 ?_
    refine pm_lload_n hC 1 dX2_push_17 rfl ?_
    refine pm_lastore (len := 64) hC 62 rfl rfl (by decide) ⟨by omega, by omega⟩ (by decide) dX2_push_18 ?_
    refine pm_aload_n hC 0 (by decide) dX2_push_19 rfl ?_
    refine pm_dup hC rfl dX2_push_20 ?_
    refine pm_getf (v := y1) hC 57 fl_X2_35 rfl rfl (by decide) rfl e2 dX2_push_21 ?_
    refine pm_iconst (v := 1) hC dX2_push_24 ?_
    refine pm_iadd hC dX2_push_25 ?_
    refine pm_putf hC 57 fl_X2_35 rfl rfl rfl (by decide) rfl trivial dX2_push_26 ?_
    exact pm_vret hC hR ⟨rfl, ((hV0.put 62 (y1 : Int).toNat (x := a1) (lo := (-9223372036854775808)) (hi := 9223372036854775807) rfl ⟨by omega, by omega⟩).put 57 7 (x := (y1 + 1)) (lo := 0) (hi := 64) rfl ⟨by omega, by omega⟩), (((pm_fr.rf (ws := [57, 62]) (V := V0)).up 62 (y1 : Int).toNat a1 rfl).up 57 7 (y1 + 1) rfl)⟩ dX2_push_29
set_option maxHeartbeats 4000000 in
set_option maxRecDepth 100000 in
theorem c_X2_applies_57 (a1 : Int) (h0 : (-2147483648) ≤ a1 ∧ a1 ≤ 2147483647) : pm_K 2 yX2_applies cX2_applies 6 (some .boolean) (fun av V => av = [(3, 57), (0, a1)] ∧ pm_ok 0 90 V) (fun _ V r V' => ∃ y, r = some (0, y) ∧ (0 ≤ y ∧ y ≤ 1) ∧ pm_ok 0 90 V' ∧ pm_fr [57, 62] V V') := by
  refine pm_MT.of (by decide) ⟨Nat.le_refl _, by decide⟩ (fun av V h => by rw [h.1]; exact (by decide : pm_words [(3, 0), (0, 0)] ≤ 6)) ?_
  rintro X av V0 hC - hR ⟨rfl, hV0⟩
  change pm_J X 0 [(0, (3, 57)), (1, (0, a1))] [] 118 V0
  refine pm_aload_n hC 0 (by decide) dX2_applies_0 rfl ?_
  refine pm_callV (ci := 2) (as := []) (st := []) hC 57 c_X2_pop_57 lm_X2_46 li_X2_pop (by decide) (by decide) rfl rfl rfl (by decide) rfl rfl (Nat.le_of_ble_eq_true rfl) ⟨Nat.le_refl _, Or.inl rfl⟩ dX2_applies_1 ⟨rfl, hV0⟩ (fun r1 V2 hp3 => ?_)
  obtain ⟨y4, rfl, b5, hV6, hF7⟩ := hp3
  change pm_J X 4 [(0, (3, 57)), (1, (0, a1))] [(1, y4)] 118 V2
  have hF8 := pm_fr.tr (pm_fr.rf (ws := [57, 62]) (V := V0)) hF7 (by decide)
  refine pm_lstore_n (lv' := [(2, (1, y4)), (0, (3, 57)), (1, (0, a1))]) hC dX2_applies_4 (by decide) rfl ?_
  refine pm_aload_n hC 1 (by decide) dX2_applies_5 rfl ?_
  refine pm_callV (ci := 2) (as := []) (st := []) hC 57 c_X2_pop_57 lm_X2_46 li_X2_pop (by decide) (by decide) rfl rfl rfl (by decide) rfl rfl (Nat.le_of_ble_eq_true rfl) ⟨Nat.le_refl _, Or.inl rfl⟩ dX2_applies_6 ⟨rfl, hV6⟩ (fun r9 V10 hp11 => ?_)
  obtain ⟨y12, rfl, b13, hV14, hF15⟩ := hp11
  change pm_J X 9 [(2, (1, y4)), (0, (3, 57)), (1, (0, a1))] [(1, y12)] 118 V10
  have hF16 := pm_fr.tr hF8 hF15 (by decide)
  refine pm_lstore (lv' := [(4, (1, y12)), (2, (1, y4)), (0, (3, 57)), (1, (0, a1))]) hC dX2_applies_9 (by decide) rfl ?_
  refine pm_iload_n hC 3 dX2_applies_11 rfl ?_
  rcases (show (a1 ≠ 42 ∧ a1 ≠ 43 ∧ a1 ≠ 45 ∧ a1 ≠ 60) ∨ a1 = 42 ∨ a1 = 43 ∨ a1 = 45 ∨ a1 = 60 by omega) with c17 | c17 | c17 | c17 | c17
  · skip
    refine pm_lookup (tgt := 108) (off := 96) hC ⟨by omega, by omega⟩ dX2_applies_12 (by decide) (by simp [Op.lookupswitch.offset, List.find?, (show ¬ 42 = a1 by omega), (show ¬ 43 = a1 by omega), (show ¬ 45 = a1 by omega), (show ¬ 60 = a1 by omega)]) (by decide) ?_
    refine pm_lload hC 0 dX2_applies_108 rfl ?_
    refine pm_lload_n hC 1 dX2_applies_110 rfl ?_
    refine pm_lcmp hC ⟨by omega, by omega⟩ ⟨by omega, by omega⟩ dX2_applies_111 (fun y18 b19 => ?_)
    refine pm_if_ne (tgt := 119) hC ⟨by omega, by omega⟩ dX2_applies_112 (by decide) (fun c20 => ?_) (fun c20 => ?_)
    · skip
      refine pm_iconst (v := 0) hC dX2_applies_119 ?_
      exact pm_iret hC hR (pm_narZ (by omega)) ⟨0, rfl, ⟨by omega, by omega⟩, hV14, hF16⟩ dX2_applies_120
    · skip
      refine pm_iconst (v := 1) hC dX2_applies_115 ?_
      refine pm_goto (tgt := 120) hC dX2_applies_116 (by decide) ?_
      exact pm_iret hC hR (pm_narZ (by omega)) ⟨1, rfl, ⟨by omega, by omega⟩, hV14, hF16⟩ dX2_applies_120
  · skip
    refine pm_lookup (tgt := 82) (off := 70) hC ⟨by omega, by omega⟩ dX2_applies_12 (by decide) (by rw [c17]; rfl) (by decide) ?_
    refine pm_aload_n hC 2 (by decide) dX2_applies_82 rfl ?_
    refine pm_lload hC 0 dX2_applies_83 rfl ?_
    refine pm_lload_n hC 1 dX2_applies_85 rfl ?_
    refine pm_lmul hC dX2_applies_86 ?_
    refine pm_someL hC (fun y21 b22 => ?_)
    have b22 := And.intro b22.1 b22.2
    refine pm_callS (as := [(1, y21)]) (st := [(3, 57)]) hC (c_X2_bounded y21 ⟨by omega, by omega⟩) lm_X2_50 ls_X2_bounded (by decide) (by decide) rfl rfl (Nat.le_of_ble_eq_true rfl) ⟨Nat.le_refl _, Or.inl rfl⟩ dX2_applies_87 ⟨rfl, hV14⟩ (fun r23 V24 hp25 => ?_)
    obtain ⟨y26, rfl, b27, rfl⟩ := hp25
    change pm_J X 90 [(4, (1, y12)), (2, (1, y4)), (0, (3, 57)), (1, (0, a1))] [(1, y26), (3, 57)] 118 V10
    refine pm_callV (ci := 2) (as := [(1, y26)]) (st := []) hC 57 (c_X2_push_57 y26 ⟨by omega, by omega⟩) lm_X2_38 li_X2_push (by decide) (by decide) rfl rfl rfl (by decide) rfl rfl (Nat.le_of_ble_eq_true rfl) ⟨Nat.le_refl _, Or.inl rfl⟩ dX2_applies_90 ⟨rfl, hV14⟩ (fun r28 V29 hp30 => ?_)
    obtain ⟨rfl, hV31, hF32⟩ := hp30
    change pm_J X 93 [(4, (1, y12)), (2, (1, y4)), (0, (3, 57)), (1, (0, a1))] [] 118 V29
    have hF33 := pm_fr.tr hF16 hF32 (by decide)
    refine pm_iconst (v := 1) hC dX2_applies_93 ?_
    exact pm_iret hC hR (pm_narZ (by omega)) ⟨1, rfl, ⟨by omega, by omega⟩, hV31, hF33⟩ dX2_applies_94
  · skip
    refine pm_lookup (tgt := 56) (off := 44) hC ⟨by omega, by omega⟩ dX2_applies_12 (by decide) (by rw [c17]; rfl) (by decide) ?_
    refine pm_aload_n hC 2 (by decide) dX2_applies_56 rfl ?_
    refine pm_lload hC 0 dX2_applies_57 rfl ?_
    refine pm_lload_n hC 1 dX2_applies_59 rfl ?_
    refine pm_ladd hC dX2_applies_60 ?_
    refine pm_someL hC (fun y34 b35 => ?_)
    have b35 := And.intro b35.1 b35.2
    refine pm_callS (as := [(1, y34)]) (st := [(3, 57)]) hC (c_X2_bounded y34 ⟨by omega, by omega⟩) lm_X2_50 ls_X2_bounded (by decide) (by decide) rfl rfl (Nat.le_of_ble_eq_true rfl) ⟨Nat.le_refl _, Or.inl rfl⟩ dX2_applies_61 ⟨rfl, hV14⟩ (fun r36 V37 hp38 => ?_)
    obtain ⟨y39, rfl, b40, rfl⟩ := hp38
    change pm_J X 64 [(4, (1, y12)), (2, (1, y4)), (0, (3, 57)), (1, (0, a1))] [(1, y39), (3, 57)] 118 V10
    refine pm_callV (ci := 2) (as := [(1, y39)]) (st := []) hC 57 (c_X2_push_57 y39 ⟨by omega, by omega⟩) lm_X2_38 li_X2_push (by decide) (by decide) rfl rfl rfl (by decide) rfl rfl (Nat.le_of_ble_eq_true rfl) ⟨Nat.le_refl _, Or.inl rfl⟩ dX2_applies_64 ⟨rfl, hV14⟩ (fun r41 V42 hp43 => ?_)
    obtain ⟨rfl, hV44, hF45⟩ := hp43
    change pm_J X 67 [(4, (1, y12)), (2, (1, y4)), (0, (3, 57)), (1, (0, a1))] [] 118 V42
    have hF46 := pm_fr.tr hF16 hF45 (by decide)
    refine pm_iconst (v := 1) hC dX2_applies_67 ?_
    exact pm_iret hC hR (pm_narZ (by omega)) ⟨1, rfl, ⟨by omega, by omega⟩, hV44, hF46⟩ dX2_applies_68
  · skip
    refine pm_lookup (tgt := 69) (off := 57) hC ⟨by omega, by omega⟩ dX2_applies_12 (by decide) (by rw [c17]; rfl) (by decide) ?_
    refine pm_aload_n hC 2 (by decide) dX2_applies_69 rfl ?_
    refine pm_lload hC 0 dX2_applies_70 rfl ?_
    refine pm_lload_n hC 1 dX2_applies_72 rfl ?_
    refine pm_lsub hC dX2_applies_73 ?_
    refine pm_someL hC (fun y47 b48 => ?_)
    have b48 := And.intro b48.1 b48.2
    refine pm_callS (as := [(1, y47)]) (st := [(3, 57)]) hC (c_X2_bounded y47 ⟨by omega, by omega⟩) lm_X2_50 ls_X2_bounded (by decide) (by decide) rfl rfl (Nat.le_of_ble_eq_true rfl) ⟨Nat.le_refl _, Or.inl rfl⟩ dX2_applies_74 ⟨rfl, hV14⟩ (fun r49 V50 hp51 => ?_)
    obtain ⟨y52, rfl, b53, rfl⟩ := hp51
    change pm_J X 77 [(4, (1, y12)), (2, (1, y4)), (0, (3, 57)), (1, (0, a1))] [(1, y52), (3, 57)] 118 V10
    refine pm_callV (ci := 2) (as := [(1, y52)]) (st := []) hC 57 (c_X2_push_57 y52 ⟨by omega, by omega⟩) lm_X2_38 li_X2_push (by decide) (by decide) rfl rfl rfl (by decide) rfl rfl (Nat.le_of_ble_eq_true rfl) ⟨Nat.le_refl _, Or.inl rfl⟩ dX2_applies_77 ⟨rfl, hV14⟩ (fun r54 V55 hp56 => ?_)
    obtain ⟨rfl, hV57, hF58⟩ := hp56
    change pm_J X 80 [(4, (1, y12)), (2, (1, y4)), (0, (3, 57)), (1, (0, a1))] [] 118 V55
    have hF59 := pm_fr.tr hF16 hF58 (by decide)
    refine pm_iconst (v := 1) hC dX2_applies_80 ?_
    exact pm_iret hC hR (pm_narZ (by omega)) ⟨1, rfl, ⟨by omega, by omega⟩, hV57, hF59⟩ dX2_applies_81
  · skip
    refine pm_lookup (tgt := 95) (off := 83) hC ⟨by omega, by omega⟩ dX2_applies_12 (by decide) (by rw [c17]; rfl) (by decide) ?_
    refine pm_lload hC 0 dX2_applies_95 rfl ?_
    refine pm_lload_n hC 1 dX2_applies_97 rfl ?_
    refine pm_lcmp hC ⟨by omega, by omega⟩ ⟨by omega, by omega⟩ dX2_applies_98 (fun y60 b61 => ?_)
    refine pm_if_ge (tgt := 106) hC ⟨by omega, by omega⟩ dX2_applies_99 (by decide) (fun c62 => ?_) (fun c62 => ?_)
    · skip
      refine pm_iconst (v := 0) hC dX2_applies_106 ?_
      exact pm_iret hC hR (pm_narZ (by omega)) ⟨0, rfl, ⟨by omega, by omega⟩, hV14, hF16⟩ dX2_applies_107
    · skip
      refine pm_iconst (v := 1) hC dX2_applies_102 ?_
      refine pm_goto (tgt := 107) hC dX2_applies_103 (by decide) ?_
      exact pm_iret hC hR (pm_narZ (by omega)) ⟨1, rfl, ⟨by omega, by omega⟩, hV14, hF16⟩ dX2_applies_107
set_option maxHeartbeats 4000000 in
set_option maxRecDepth 100000 in
theorem c_X2_holds_57_83 (a1 : Int) (h0 : 0 ≤ a1 ∧ a1 ≤ 9) : pm_K 3 yX2_holds cX2_holds 6 (some .boolean) (fun av V => av = [(3, 57), (0, a1), (3, 83)] ∧ pm_ok 0 90 V) (fun _ V r V' => ∃ y, r = some (0, y) ∧ (0 ≤ y ∧ y ≤ 1) ∧ pm_ok 0 90 V' ∧ pm_fr [57, 62] V V') := by
  refine pm_MT.of (by decide) ⟨Nat.le_refl _, by decide⟩ (fun av V h => by rw [h.1]; exact (by decide : pm_words [(3, 0), (0, 0), (3, 0)] ≤ 6)) ?_
  rintro X av V0 hC - hR ⟨rfl, hV0⟩
  change pm_J X 0 [(0, (3, 57)), (1, (0, a1)), (2, (3, 83))] [] 118 V0
  refine pm_aload_n hC 0 (by decide) dX2_holds_0 rfl ?_
  refine pm_iconst (v := 0) hC dX2_holds_1 ?_
  refine pm_putf hC 57 fl_X2_35 rfl rfl rfl (by decide) rfl trivial dX2_holds_2 ?_
  refine pm_aload_n hC 0 (by decide) dX2_holds_5 rfl ?_
  have e1 : V0 57 2 = 59 := hV0.one 57 2 (by decide) (by decide) rfl
  refine pm_getf (v := 59) hC 57 fl_X2_19 rfl rfl (by decide) rfl e1 dX2_holds_6 ?_
  refine pm_iload_n hC 1 dX2_holds_9 rfl ?_
  obtain ⟨y2, e3⟩ : ∃ y, V0 59 (a1 : Int).toNat = y := ⟨_, rfl⟩
  have b4 := hV0.get 59 (a1 : Int).toNat (lo := 0) (hi := 500) (by decide) (show _ < 10 by omega) rfl
  rw [e3] at b4
  refine pm_iaload (len := 10) (v := y2) hC 59 rfl rfl (by decide) ⟨by omega, by omega⟩ (by decide) e3 dX2_holds_10 ?_
  refine pm_istore_n (lv' := [(3, (0, y2)), (0, (3, 57)), (1, (0, a1)), (2, (3, 83))]) hC dX2_holds_11 (by decide) rfl ?_
  have hV7 := (hV0.put 57 7 (x := 0) (lo := 0) (hi := 64) rfl ⟨by decide, by decide⟩)
  have hF8 := ((pm_fr.rf (ws := [57, 62]) (V := V0)).up 57 7 0 rfl)
  obtain ⟨V5, hv6⟩ : ∃ V, V = (pm_up V0 57 7 0) := ⟨_, rfl⟩
  rw [← hv6] at hV7 hF8
  rw [← hv6]
  have e9 : V5 57 2 = 59 := by rw [hv6]; exact e1
  have e10 : V5 57 7 = 0 := by rw [hv6]; rfl
  have L16 : ∀ (N18 : Nat) (x11 : Int) (V13 : pm_M), (0 ≤ x11 ∧ x11 ≤ 500) → pm_ok 0 90 V13 → pm_fr [57, 62] V0 V13 → (Int.toNat (500 - x11)) = N18 → pm_J X 12 [(0, (3, 57)), (1, (0, a1)), (2, (3, 83)), (3, (0, x11))] [] 118 V13 := by
    intro N18
    induction N18 using Nat.strongRecOn with
    | _ N18 ih19 =>
    intro x11 V13 b12 hV14 hF15 hm17
    refine pm_iload_n hC 3 dX2_holds_12 rfl ?_
    refine pm_aload_n hC 0 (by decide) dX2_holds_13 rfl ?_
    have e20 : V13 57 3 = 60 := hV14.one 57 3 (by decide) (by decide) rfl
    refine pm_getf (v := 60) hC 57 fl_X2_22 rfl rfl (by decide) rfl e20 dX2_holds_14 ?_
    refine pm_iload_n hC 1 dX2_holds_17 rfl ?_
    obtain ⟨y21, e22⟩ : ∃ y, V13 60 (a1 : Int).toNat = y := ⟨_, rfl⟩
    have b23 := hV14.get 60 (a1 : Int).toNat (lo := 0) (hi := 500) (by decide) (show _ < 10 by omega) rfl
    rw [e22] at b23
    refine pm_iaload (len := 10) (v := y21) hC 60 rfl rfl (by decide) ⟨by omega, by omega⟩ (by decide) e22 dX2_holds_18 ?_
    refine pm_icmp_ge (tgt := 107) hC ⟨by omega, by omega⟩ ⟨by omega, by omega⟩ dX2_holds_19 (by decide) (fun c24 => ?_) (fun c24 => ?_)
    · skip
      refine pm_iconst (v := 1) hC dX2_holds_107 ?_
      exact pm_iret hC hR (pm_narZ (by omega)) ⟨1, rfl, ⟨by omega, by omega⟩, hV14, hF15⟩ dX2_holds_108
    · skip
      refine pm_aload_n hC 0 (by decide) dX2_holds_22 rfl ?_
      have e25 : V13 57 4 = 61 := hV14.one 57 4 (by decide) (by decide) rfl
      refine pm_getf (v := 61) hC 57 fl_X2_25 rfl rfl (by decide) rfl e25 dX2_holds_23 ?_
      refine pm_iload_n hC 3 dX2_holds_26 rfl ?_
      obtain ⟨y26, e27⟩ : ∃ y, V13 61 (x11 : Int).toNat = y := ⟨_, rfl⟩
      have b28 := hV14.get 61 (x11 : Int).toNat (lo := 0) (hi := 30000) (by decide) (show _ < 500 by omega) rfl
      rw [e27] at b28
      refine pm_iaload (len := 500) (v := y26) hC 61 rfl rfl (by decide) ⟨by omega, by omega⟩ (by decide) e27 dX2_holds_27 ?_
      refine pm_istore (lv' := [(4, (0, y26)), (0, (3, 57)), (1, (0, a1)), (2, (3, 83)), (3, (0, x11))]) hC dX2_holds_28 (by decide) rfl ?_
      refine pm_iload hC 0 dX2_holds_30 rfl ?_
      refine pm_sipush (v := 10000) hC dX2_holds_32 (by decide) ?_
      refine pm_icmp_ge (tgt := 48) hC ⟨by omega, by omega⟩ ⟨by decide, by decide⟩ dX2_holds_35 (by decide) (fun c29 => ?_) (fun c29 => ?_)
      · skip
        refine pm_iload hC 0 dX2_holds_48 rfl ?_
        refine pm_sipush (v := 20000) hC dX2_holds_50 (by decide) ?_
        refine pm_icmp_ge (tgt := 86) hC ⟨by omega, by omega⟩ ⟨by decide, by decide⟩ dX2_holds_53 (by decide) (fun c30 => ?_) (fun c30 => ?_)
        · skip
          refine pm_aload_n hC 1 (by decide) dX2_holds_86 rfl ?_
          refine pm_iload hC 0 dX2_holds_87 rfl ?_
          refine pm_sipush (v := 20000) hC dX2_holds_89 (by decide) ?_
          refine pm_isub hC dX2_holds_92 ?_
          refine pm_callV (ci := 2) (as := [(0, (y26 - 20000))]) (st := []) hC 57 (c_X2_applies_57 (y26 - 20000) ⟨by omega, by omega⟩) lm_X2_42 li_X2_applies (by decide) (by decide) rfl rfl rfl (by decide) rfl rfl (Nat.le_of_ble_eq_true rfl) ⟨Nat.le_refl _, Or.inl rfl⟩ dX2_holds_93 ⟨rfl, hV14⟩ (fun r31 V32 hp33 => ?_)
          obtain ⟨y34, rfl, b35, hV36, hF37⟩ := hp33
          change pm_J X 96 [(4, (0, y26)), (0, (3, 57)), (1, (0, a1)), (2, (3, 83)), (3, (0, x11))] [(0, y34)] 118 V32
          have hF38 := pm_fr.tr hF15 hF37 (by decide)
          refine pm_if_ne (tgt := 101) hC ⟨by omega, by omega⟩ dX2_holds_96 (by decide) (fun c39 => ?_) (fun c39 => ?_)
          · skip
            obtain ⟨x40, ei41⟩ : ∃ y : Int, x11 + 1 = y := ⟨_, rfl⟩
            refine pm_iinc (y := x40) (lv' := [(3, (0, x40)), (4, (0, y26)), (0, (3, 57)), (1, (0, a1)), (2, (3, 83))]) hC 4 dX2_holds_101 (by decide) rfl ei41 rfl ?_
            refine pm_goto (tgt := 12) hC dX2_holds_104 (by decide) ?_
            refine pm_lvsub [2, 3, 4, 0] (lv' := [(0, (3, 57)), (1, (0, a1)), (2, (3, 83)), (3, (0, x40))]) rfl ?_
            exact ih19 _ (by omega) x40 V32 ⟨by omega, by omega⟩ hV36 hF38 rfl
          · skip
            refine pm_iconst (v := 0) hC dX2_holds_99 ?_
            exact pm_iret hC hR (pm_narZ (by omega)) ⟨0, rfl, ⟨by omega, by omega⟩, hV36, hF38⟩ dX2_holds_100
        · skip
          refine pm_iload hC 0 dX2_holds_56 rfl ?_
          refine pm_sipush (v := 10000) hC dX2_holds_58 (by decide) ?_
          refine pm_isub hC dX2_holds_61 ?_
          refine pm_istore (lv' := [(5, (0, (y26 - 10000))), (4, (0, y26)), (0, (3, 57)), (1, (0, a1)), (2, (3, 83)), (3, (0, x11))]) hC dX2_holds_62 (by decide) rfl ?_
          refine pm_aload_n hC 2 (by decide) dX2_holds_64 rfl ?_
          refine pm_iload hC 0 dX2_holds_65 rfl ?_
          refine pm_aload_n hC 4 (by decide) dX2_holds_67 rfl ?_
          refine pm_alen hC 83 rfl (by decide) rfl (by decide) dX2_holds_68 ?_
          change pm_J X 69 [(5, (0, (y26 - 10000))), (4, (0, y26)), (0, (3, 57)), (1, (0, a1)), (2, (3, 83)), (3, (0, x11))] [(0, 7), (0, (y26 - 10000)), (3, 57)] 118 V13
          refine pm_icmp_ge (tgt := 79) hC ⟨by omega, by omega⟩ ⟨by decide, by decide⟩ dX2_holds_69 (by decide) (fun c42 => ?_) (fun c42 => ?_)
          · skip
            refine pm_lconst (x := 0) hC dX2_holds_79 rfl ?_
            refine pm_callV (ci := 2) (as := [(1, 0)]) (st := []) hC 57 (c_X2_push_57 0 ⟨by decide, by decide⟩) lm_X2_38 li_X2_push (by decide) (by decide) rfl rfl rfl (by decide) rfl rfl (Nat.le_of_ble_eq_true rfl) ⟨Nat.le_refl _, Or.inl rfl⟩ dX2_holds_80 ⟨rfl, hV14⟩ (fun r43 V44 hp45 => ?_)
            obtain ⟨rfl, hV46, hF47⟩ := hp45
            change pm_J X 83 [(5, (0, (y26 - 10000))), (4, (0, y26)), (0, (3, 57)), (1, (0, a1)), (2, (3, 83)), (3, (0, x11))] [] 118 V44
            have hF48 := pm_fr.tr hF15 hF47 (by decide)
            refine pm_goto (tgt := 101) hC dX2_holds_83 (by decide) ?_
            obtain ⟨x49, ei50⟩ : ∃ y : Int, x11 + 1 = y := ⟨_, rfl⟩
            refine pm_iinc (y := x49) (lv' := [(3, (0, x49)), (5, (0, (y26 - 10000))), (4, (0, y26)), (0, (3, 57)), (1, (0, a1)), (2, (3, 83))]) hC 5 dX2_holds_101 (by decide) rfl ei50 rfl ?_
            refine pm_goto (tgt := 12) hC dX2_holds_104 (by decide) ?_
            refine pm_lvsub [3, 4, 5, 0] (lv' := [(0, (3, 57)), (1, (0, a1)), (2, (3, 83)), (3, (0, x49))]) rfl ?_
            exact ih19 _ (by omega) x49 V44 ⟨by omega, by omega⟩ hV46 hF48 rfl
          · skip
            refine pm_aload_n hC 4 (by decide) dX2_holds_72 rfl ?_
            refine pm_iload hC 0 dX2_holds_73 rfl ?_
            obtain ⟨y51, e52⟩ : ∃ y, V13 83 ((y26 - 10000) : Int).toNat = y := ⟨_, rfl⟩
            have b53 := hV14.get 83 ((y26 - 10000) : Int).toNat (lo := (-9223372036854775808)) (hi := 9223372036854775807) (by decide) (show _ < 7 by omega) rfl
            rw [e52] at b53
            refine pm_laload (len := 7) (v := y51) hC 83 rfl rfl (by decide) ⟨by omega, by omega⟩ (by decide) e52 dX2_holds_75 ?_
            refine pm_goto (tgt := 80) hC dX2_holds_76 (by decide) ?_
            refine pm_callV (ci := 2) (as := [(1, y51)]) (st := []) hC 57 (c_X2_push_57 y51 ⟨by omega, by omega⟩) lm_X2_38 li_X2_push (by decide) (by decide) rfl rfl rfl (by decide) rfl rfl (Nat.le_of_ble_eq_true rfl) ⟨Nat.le_refl _, Or.inl rfl⟩ dX2_holds_80 ⟨rfl, hV14⟩ (fun r54 V55 hp56 => ?_)
            obtain ⟨rfl, hV57, hF58⟩ := hp56
            change pm_J X 83 [(5, (0, (y26 - 10000))), (4, (0, y26)), (0, (3, 57)), (1, (0, a1)), (2, (3, 83)), (3, (0, x11))] [] 118 V55
            have hF59 := pm_fr.tr hF15 hF58 (by decide)
            refine pm_goto (tgt := 101) hC dX2_holds_83 (by decide) ?_
            obtain ⟨x60, ei61⟩ : ∃ y : Int, x11 + 1 = y := ⟨_, rfl⟩
            refine pm_iinc (y := x60) (lv' := [(3, (0, x60)), (5, (0, (y26 - 10000))), (4, (0, y26)), (0, (3, 57)), (1, (0, a1)), (2, (3, 83))]) hC 5 dX2_holds_101 (by decide) rfl ei61 rfl ?_
            refine pm_goto (tgt := 12) hC dX2_holds_104 (by decide) ?_
            refine pm_lvsub [3, 4, 5, 0] (lv' := [(0, (3, 57)), (1, (0, a1)), (2, (3, 83)), (3, (0, x60))]) rfl ?_
            exact ih19 _ (by omega) x60 V55 ⟨by omega, by omega⟩ hV57 hF59 rfl
      · skip
        refine pm_aload_n hC 1 (by decide) dX2_holds_38 rfl ?_
        refine pm_iload hC 0 dX2_holds_39 rfl ?_
        refine pm_i2l hC ⟨by omega, by omega⟩ dX2_holds_41 ?_
        refine pm_callV (ci := 2) (as := [(1, y26)]) (st := []) hC 57 (c_X2_push_57 y26 ⟨by omega, by omega⟩) lm_X2_38 li_X2_push (by decide) (by decide) rfl rfl rfl (by decide) rfl rfl (Nat.le_of_ble_eq_true rfl) ⟨Nat.le_refl _, Or.inl rfl⟩ dX2_holds_42 ⟨rfl, hV14⟩ (fun r62 V63 hp64 => ?_)
        obtain ⟨rfl, hV65, hF66⟩ := hp64
        change pm_J X 45 [(4, (0, y26)), (0, (3, 57)), (1, (0, a1)), (2, (3, 83)), (3, (0, x11))] [] 118 V63
        have hF67 := pm_fr.tr hF15 hF66 (by decide)
        refine pm_goto (tgt := 101) hC dX2_holds_45 (by decide) ?_
        obtain ⟨x68, ei69⟩ : ∃ y : Int, x11 + 1 = y := ⟨_, rfl⟩
        refine pm_iinc (y := x68) (lv' := [(3, (0, x68)), (4, (0, y26)), (0, (3, 57)), (1, (0, a1)), (2, (3, 83))]) hC 4 dX2_holds_101 (by decide) rfl ei69 rfl ?_
        refine pm_goto (tgt := 12) hC dX2_holds_104 (by decide) ?_
        refine pm_lvsub [2, 3, 4, 0] (lv' := [(0, (3, 57)), (1, (0, a1)), (2, (3, 83)), (3, (0, x68))]) rfl ?_
        exact ih19 _ (by omega) x68 V63 ⟨by omega, by omega⟩ hV65 hF67 rfl
  refine pm_lvsub [1, 2, 3, 0] (lv' := [(0, (3, 57)), (1, (0, a1)), (2, (3, 83)), (3, (0, y2))]) rfl ?_
  exact L16 _ y2 V5 ⟨by omega, by omega⟩ hV7 hF8 rfl
set_option maxHeartbeats 4000000 in
set_option maxRecDepth 100000 in
theorem c_X2_pop_63  : pm_K 1 yX2_pop cX2_pop 1 (some .long) (fun av V => av = [(3, 63)] ∧ pm_ok 0 90 V) (fun _ V r V' => ∃ y, r = some (1, y) ∧ ((-9223372036854775808) ≤ y ∧ y ≤ 9223372036854775807) ∧ pm_ok 0 90 V' ∧ pm_fr [63] V V') := by
  refine pm_MT.of (by decide) ⟨Nat.le_refl _, by decide⟩ (fun av V h => by rw [h.1]; exact (by decide : pm_words [(3, 0)] ≤ 1)) ?_
  rintro X av V0 hC - hR ⟨rfl, hV0⟩
  change pm_J X 0 [(0, (3, 63))] [] 118 V0
  refine pm_aload_n hC 0 (by decide) dX2_pop_0 rfl ?_
  obtain ⟨y1, e2⟩ : ∃ y, V0 63 7 = y := ⟨_, rfl⟩
  have b3 := hV0.get 63 7 (lo := 0) (hi := 64) (by decide) (by decide) rfl
  rw [e2] at b3
  refine pm_getf (v := y1) hC 63 fl_X2_35 rfl rfl (by decide) rfl e2 dX2_pop_1 ?_
  refine pm_if_gt (tgt := 9) hC ⟨by omega, by omega⟩ dX2_pop_4 (by decide) (fun c4 => ?_) (fun c4 => ?_)
  · skip
    refine pm_aload_n hC 0 (by decide) dX2_pop_9 rfl ?_
    refine pm_dup hC rfl dX2_pop_10 ?_
    refine pm_getf (v := y1) hC 63 fl_X2_35 rfl rfl (by decide) rfl e2 dX2_pop_11 ?_
    refine pm_iconst (v := 1) hC dX2_pop_14 ?_
    refine pm_isub hC dX2_pop_15 ?_
    refine pm_putf hC 63 fl_X2_35 rfl rfl rfl (by decide) rfl trivial dX2_pop_16 ?_
    refine pm_aload_n hC 0 (by decide) dX2_pop_19 rfl ?_
    have e5 : V0 63 6 = 68 := hV0.one 63 6 (by decide) (by decide) rfl
    refine pm_getf (v := 68) hC 63 fl_X2_31 rfl rfl (by decide) rfl e5 dX2_pop_20 ?_
    refine pm_aload_n hC 0 (by decide) dX2_pop_23 rfl ?_
    refine pm_getf (v := (y1 - 1)) hC 63 fl_X2_35 rfl rfl (by decide) rfl rfl dX2_pop_24 ?_
    obtain ⟨y6, e7⟩ : ∃ y, V0 68 ((y1 - 1) : Int).toNat = y := ⟨_, rfl⟩
    have b8 := hV0.get 68 ((y1 - 1) : Int).toNat (lo := (-9223372036854775808)) (hi := 9223372036854775807) (by decide) (show _ < 64 by omega) rfl
    rw [e7] at b8
    refine pm_laload (len := 64) (v := y6) hC 68 rfl rfl (by decide) ⟨by omega, by omega⟩ (by decide) e7 dX2_pop_27 ?_
    exact pm_lret hC hR ⟨y6, rfl, ⟨by omega, by omega⟩, (hV0.put 63 7 (x := (y1 - 1)) (lo := 0) (hi := 64) rfl ⟨by omega, by omega⟩), ((pm_fr.rf (ws := [63]) (V := V0)).up 63 7 (y1 - 1) rfl)⟩ dX2_pop_28
  · skip
    refine pm_lconst (x := 0) hC dX2_pop_7 rfl ?_
    exact pm_lret hC hR ⟨0, rfl, ⟨by omega, by omega⟩, hV0, (pm_fr.rf (ws := [63]) (V := V0))⟩ dX2_pop_8
set_option maxHeartbeats 4000000 in
set_option maxRecDepth 100000 in
theorem c_X2_push_63 (a1 : Int) (h0 : (-9223372036854775808) ≤ a1 ∧ a1 ≤ 9223372036854775807) : pm_K 1 yX2_push cX2_push 3 none (fun av V => av = [(3, 63), (1, a1)] ∧ pm_ok 0 90 V) (fun _ V r V' => r = none ∧ pm_ok 0 90 V' ∧ pm_fr [63, 68] V V') := by
  refine pm_MT.of (by decide) ⟨Nat.le_refl _, by decide⟩ (fun av V h => by rw [h.1]; exact (by decide : pm_words [(3, 0), (1, 0)] ≤ 3)) ?_
  rintro X av V0 hC - hR ⟨rfl, hV0⟩
  change pm_J X 0 [(0, (3, 63)), (1, (1, a1))] [] 118 V0
  refine pm_aload_n hC 0 (by decide) dX2_push_0 rfl ?_
  obtain ⟨y1, e2⟩ : ∃ y, V0 63 7 = y := ⟨_, rfl⟩
  have b3 := hV0.get 63 7 (lo := 0) (hi := 64) (by decide) (by decide) rfl
  rw [e2] at b3
  refine pm_getf (v := y1) hC 63 fl_X2_35 rfl rfl (by decide) rfl e2 dX2_push_1 ?_
  refine pm_bipush (v := 64) hC dX2_push_4 (by decide) ?_
  refine pm_icmp_ge (tgt := 29) hC ⟨by omega, by omega⟩ ⟨by decide, by decide⟩ dX2_push_6 (by decide) (fun c4 => ?_) (fun c4 => ?_)
  · skip
    exact pm_vret hC hR ⟨rfl, hV0, (pm_fr.rf (ws := [63, 68]) (V := V0))⟩ dX2_push_29
  · skip
    refine pm_aload_n hC 0 (by decide) dX2_push_9 rfl ?_
    have e5 : V0 63 6 = 68 := hV0.one 63 6 (by decide) (by decide) rfl
    refine pm_getf (v := 68) hC 63 fl_X2_31 rfl rfl (by decide) rfl e5 dX2_push_10 ?_
    refine pm_aload_n hC 0 (by decide) dX2_push_13 rfl ?_
    refine pm_getf (v := y1) hC 63 fl_X2_35 rfl rfl (by decide) rfl e2 dX2_push_14 ?_
    refine pm_lload_n hC 1 dX2_push_17 rfl ?_
    refine pm_lastore (len := 64) hC 68 rfl rfl (by decide) ⟨by omega, by omega⟩ (by decide) dX2_push_18 ?_
    refine pm_aload_n hC 0 (by decide) dX2_push_19 rfl ?_
    refine pm_dup hC rfl dX2_push_20 ?_
    refine pm_getf (v := y1) hC 63 fl_X2_35 rfl rfl (by decide) rfl e2 dX2_push_21 ?_
    refine pm_iconst (v := 1) hC dX2_push_24 ?_
    refine pm_iadd hC dX2_push_25 ?_
    refine pm_putf hC 63 fl_X2_35 rfl rfl rfl (by decide) rfl trivial dX2_push_26 ?_
    exact pm_vret hC hR ⟨rfl, ((hV0.put 68 (y1 : Int).toNat (x := a1) (lo := (-9223372036854775808)) (hi := 9223372036854775807) rfl ⟨by omega, by omega⟩).put 63 7 (x := (y1 + 1)) (lo := 0) (hi := 64) rfl ⟨by omega, by omega⟩), (((pm_fr.rf (ws := [63, 68]) (V := V0)).up 68 (y1 : Int).toNat a1 rfl).up 63 7 (y1 + 1) rfl)⟩ dX2_push_29
set_option maxHeartbeats 4000000 in
set_option maxRecDepth 100000 in
theorem c_X2_applies_63 (a1 : Int) (h0 : (-2147483648) ≤ a1 ∧ a1 ≤ 2147483647) : pm_K 2 yX2_applies cX2_applies 6 (some .boolean) (fun av V => av = [(3, 63), (0, a1)] ∧ pm_ok 0 90 V) (fun _ V r V' => ∃ y, r = some (0, y) ∧ (0 ≤ y ∧ y ≤ 1) ∧ pm_ok 0 90 V' ∧ pm_fr [63, 68] V V') := by
  refine pm_MT.of (by decide) ⟨Nat.le_refl _, by decide⟩ (fun av V h => by rw [h.1]; exact (by decide : pm_words [(3, 0), (0, 0)] ≤ 6)) ?_
  rintro X av V0 hC - hR ⟨rfl, hV0⟩
  change pm_J X 0 [(0, (3, 63)), (1, (0, a1))] [] 118 V0
  refine pm_aload_n hC 0 (by decide) dX2_applies_0 rfl ?_
  refine pm_callV (ci := 2) (as := []) (st := []) hC 63 c_X2_pop_63 lm_X2_46 li_X2_pop (by decide) (by decide) rfl rfl rfl (by decide) rfl rfl (Nat.le_of_ble_eq_true rfl) ⟨Nat.le_refl _, Or.inl rfl⟩ dX2_applies_1 ⟨rfl, hV0⟩ (fun r1 V2 hp3 => ?_)
  obtain ⟨y4, rfl, b5, hV6, hF7⟩ := hp3
  change pm_J X 4 [(0, (3, 63)), (1, (0, a1))] [(1, y4)] 118 V2
  have hF8 := pm_fr.tr (pm_fr.rf (ws := [63, 68]) (V := V0)) hF7 (by decide)
  refine pm_lstore_n (lv' := [(2, (1, y4)), (0, (3, 63)), (1, (0, a1))]) hC dX2_applies_4 (by decide) rfl ?_
  refine pm_aload_n hC 1 (by decide) dX2_applies_5 rfl ?_
  refine pm_callV (ci := 2) (as := []) (st := []) hC 63 c_X2_pop_63 lm_X2_46 li_X2_pop (by decide) (by decide) rfl rfl rfl (by decide) rfl rfl (Nat.le_of_ble_eq_true rfl) ⟨Nat.le_refl _, Or.inl rfl⟩ dX2_applies_6 ⟨rfl, hV6⟩ (fun r9 V10 hp11 => ?_)
  obtain ⟨y12, rfl, b13, hV14, hF15⟩ := hp11
  change pm_J X 9 [(2, (1, y4)), (0, (3, 63)), (1, (0, a1))] [(1, y12)] 118 V10
  have hF16 := pm_fr.tr hF8 hF15 (by decide)
  refine pm_lstore (lv' := [(4, (1, y12)), (2, (1, y4)), (0, (3, 63)), (1, (0, a1))]) hC dX2_applies_9 (by decide) rfl ?_
  refine pm_iload_n hC 3 dX2_applies_11 rfl ?_
  rcases (show (a1 ≠ 42 ∧ a1 ≠ 43 ∧ a1 ≠ 45 ∧ a1 ≠ 60) ∨ a1 = 42 ∨ a1 = 43 ∨ a1 = 45 ∨ a1 = 60 by omega) with c17 | c17 | c17 | c17 | c17
  · skip
    refine pm_lookup (tgt := 108) (off := 96) hC ⟨by omega, by omega⟩ dX2_applies_12 (by decide) (by simp [Op.lookupswitch.offset, List.find?, (show ¬ 42 = a1 by omega), (show ¬ 43 = a1 by omega), (show ¬ 45 = a1 by omega), (show ¬ 60 = a1 by omega)]) (by decide) ?_
    refine pm_lload hC 0 dX2_applies_108 rfl ?_
    refine pm_lload_n hC 1 dX2_applies_110 rfl ?_
    refine pm_lcmp hC ⟨by omega, by omega⟩ ⟨by omega, by omega⟩ dX2_applies_111 (fun y18 b19 => ?_)
    refine pm_if_ne (tgt := 119) hC ⟨by omega, by omega⟩ dX2_applies_112 (by decide) (fun c20 => ?_) (fun c20 => ?_)
    · skip
      refine pm_iconst (v := 0) hC dX2_applies_119 ?_
      exact pm_iret hC hR (pm_narZ (by omega)) ⟨0, rfl, ⟨by omega, by omega⟩, hV14, hF16⟩ dX2_applies_120
    · skip
      refine pm_iconst (v := 1) hC dX2_applies_115 ?_
      refine pm_goto (tgt := 120) hC dX2_applies_116 (by decide) ?_
      exact pm_iret hC hR (pm_narZ (by omega)) ⟨1, rfl, ⟨by omega, by omega⟩, hV14, hF16⟩ dX2_applies_120
  · skip
    refine pm_lookup (tgt := 82) (off := 70) hC ⟨by omega, by omega⟩ dX2_applies_12 (by decide) (by rw [c17]; rfl) (by decide) ?_
    refine pm_aload_n hC 2 (by decide) dX2_applies_82 rfl ?_
    refine pm_lload hC 0 dX2_applies_83 rfl ?_
    refine pm_lload_n hC 1 dX2_applies_85 rfl ?_
    refine pm_lmul hC dX2_applies_86 ?_
    refine pm_someL hC (fun y21 b22 => ?_)
    have b22 := And.intro b22.1 b22.2
    refine pm_callS (as := [(1, y21)]) (st := [(3, 63)]) hC (c_X2_bounded y21 ⟨by omega, by omega⟩) lm_X2_50 ls_X2_bounded (by decide) (by decide) rfl rfl (Nat.le_of_ble_eq_true rfl) ⟨Nat.le_refl _, Or.inl rfl⟩ dX2_applies_87 ⟨rfl, hV14⟩ (fun r23 V24 hp25 => ?_)
    obtain ⟨y26, rfl, b27, rfl⟩ := hp25
    change pm_J X 90 [(4, (1, y12)), (2, (1, y4)), (0, (3, 63)), (1, (0, a1))] [(1, y26), (3, 63)] 118 V10
    refine pm_callV (ci := 2) (as := [(1, y26)]) (st := []) hC 63 (c_X2_push_63 y26 ⟨by omega, by omega⟩) lm_X2_38 li_X2_push (by decide) (by decide) rfl rfl rfl (by decide) rfl rfl (Nat.le_of_ble_eq_true rfl) ⟨Nat.le_refl _, Or.inl rfl⟩ dX2_applies_90 ⟨rfl, hV14⟩ (fun r28 V29 hp30 => ?_)
    obtain ⟨rfl, hV31, hF32⟩ := hp30
    change pm_J X 93 [(4, (1, y12)), (2, (1, y4)), (0, (3, 63)), (1, (0, a1))] [] 118 V29
    have hF33 := pm_fr.tr hF16 hF32 (by decide)
    refine pm_iconst (v := 1) hC dX2_applies_93 ?_
    exact pm_iret hC hR (pm_narZ (by omega)) ⟨1, rfl, ⟨by omega, by omega⟩, hV31, hF33⟩ dX2_applies_94
  · skip
    refine pm_lookup (tgt := 56) (off := 44) hC ⟨by omega, by omega⟩ dX2_applies_12 (by decide) (by rw [c17]; rfl) (by decide) ?_
    refine pm_aload_n hC 2 (by decide) dX2_applies_56 rfl ?_
    refine pm_lload hC 0 dX2_applies_57 rfl ?_
    refine pm_lload_n hC 1 dX2_applies_59 rfl ?_
    refine pm_ladd hC dX2_applies_60 ?_
    refine pm_someL hC (fun y34 b35 => ?_)
    have b35 := And.intro b35.1 b35.2
    refine pm_callS (as := [(1, y34)]) (st := [(3, 63)]) hC (c_X2_bounded y34 ⟨by omega, by omega⟩) lm_X2_50 ls_X2_bounded (by decide) (by decide) rfl rfl (Nat.le_of_ble_eq_true rfl) ⟨Nat.le_refl _, Or.inl rfl⟩ dX2_applies_61 ⟨rfl, hV14⟩ (fun r36 V37 hp38 => ?_)
    obtain ⟨y39, rfl, b40, rfl⟩ := hp38
    change pm_J X 64 [(4, (1, y12)), (2, (1, y4)), (0, (3, 63)), (1, (0, a1))] [(1, y39), (3, 63)] 118 V10
    refine pm_callV (ci := 2) (as := [(1, y39)]) (st := []) hC 63 (c_X2_push_63 y39 ⟨by omega, by omega⟩) lm_X2_38 li_X2_push (by decide) (by decide) rfl rfl rfl (by decide) rfl rfl (Nat.le_of_ble_eq_true rfl) ⟨Nat.le_refl _, Or.inl rfl⟩ dX2_applies_64 ⟨rfl, hV14⟩ (fun r41 V42 hp43 => ?_)
    obtain ⟨rfl, hV44, hF45⟩ := hp43
    change pm_J X 67 [(4, (1, y12)), (2, (1, y4)), (0, (3, 63)), (1, (0, a1))] [] 118 V42
    have hF46 := pm_fr.tr hF16 hF45 (by decide)
    refine pm_iconst (v := 1) hC dX2_applies_67 ?_
    exact pm_iret hC hR (pm_narZ (by omega)) ⟨1, rfl, ⟨by omega, by omega⟩, hV44, hF46⟩ dX2_applies_68
  · skip
    refine pm_lookup (tgt := 69) (off := 57) hC ⟨by omega, by omega⟩ dX2_applies_12 (by decide) (by rw [c17]; rfl) (by decide) ?_
    refine pm_aload_n hC 2 (by decide) dX2_applies_69 rfl ?_
    refine pm_lload hC 0 dX2_applies_70 rfl ?_
    refine pm_lload_n hC 1 dX2_applies_72 rfl ?_
    refine pm_lsub hC dX2_applies_73 ?_
    refine pm_someL hC (fun y47 b48 => ?_)
    have b48 := And.intro b48.1 b48.2
    refine pm_callS (as := [(1, y47)]) (st := [(3, 63)]) hC (c_X2_bounded y47 ⟨by omega, by omega⟩) lm_X2_50 ls_X2_bounded (by decide) (by decide) rfl rfl (Nat.le_of_ble_eq_true rfl) ⟨Nat.le_refl _, Or.inl rfl⟩ dX2_applies_74 ⟨rfl, hV14⟩ (fun r49 V50 hp51 => ?_)
    obtain ⟨y52, rfl, b53, rfl⟩ := hp51
    change pm_J X 77 [(4, (1, y12)), (2, (1, y4)), (0, (3, 63)), (1, (0, a1))] [(1, y52), (3, 63)] 118 V10
    refine pm_callV (ci := 2) (as := [(1, y52)]) (st := []) hC 63 (c_X2_push_63 y52 ⟨by omega, by omega⟩) lm_X2_38 li_X2_push (by decide) (by decide) rfl rfl rfl (by decide) rfl rfl (Nat.le_of_ble_eq_true rfl) ⟨Nat.le_refl _, Or.inl rfl⟩ dX2_applies_77 ⟨rfl, hV14⟩ (fun r54 V55 hp56 => ?_)
    obtain ⟨rfl, hV57, hF58⟩ := hp56
    change pm_J X 80 [(4, (1, y12)), (2, (1, y4)), (0, (3, 63)), (1, (0, a1))] [] 118 V55
    have hF59 := pm_fr.tr hF16 hF58 (by decide)
    refine pm_iconst (v := 1) hC dX2_applies_80 ?_
    exact pm_iret hC hR (pm_narZ (by omega)) ⟨1, rfl, ⟨by omega, by omega⟩, hV57, hF59⟩ dX2_applies_81
  · skip
    refine pm_lookup (tgt := 95) (off := 83) hC ⟨by omega, by omega⟩ dX2_applies_12 (by decide) (by rw [c17]; rfl) (by decide) ?_
    refine pm_lload hC 0 dX2_applies_95 rfl ?_
    refine pm_lload_n hC 1 dX2_applies_97 rfl ?_
    refine pm_lcmp hC ⟨by omega, by omega⟩ ⟨by omega, by omega⟩ dX2_applies_98 (fun y60 b61 => ?_)
    refine pm_if_ge (tgt := 106) hC ⟨by omega, by omega⟩ dX2_applies_99 (by decide) (fun c62 => ?_) (fun c62 => ?_)
    · skip
      refine pm_iconst (v := 0) hC dX2_applies_106 ?_
      exact pm_iret hC hR (pm_narZ (by omega)) ⟨0, rfl, ⟨by omega, by omega⟩, hV14, hF16⟩ dX2_applies_107
    · skip
      refine pm_iconst (v := 1) hC dX2_applies_102 ?_
      refine pm_goto (tgt := 107) hC dX2_applies_103 (by decide) ?_
      exact pm_iret hC hR (pm_narZ (by omega)) ⟨1, rfl, ⟨by omega, by omega⟩, hV14, hF16⟩ dX2_applies_107
set_option maxHeartbeats 4000000 in
set_option maxRecDepth 100000 in
theorem c_X2_holds_63_83 (a1 : Int) (h0 : 0 ≤ a1 ∧ a1 ≤ 9) : pm_K 3 yX2_holds cX2_holds 6 (some .boolean) (fun av V => av = [(3, 63), (0, a1), (3, 83)] ∧ pm_ok 0 90 V) (fun _ V r V' => ∃ y, r = some (0, y) ∧ (0 ≤ y ∧ y ≤ 1) ∧ pm_ok 0 90 V' ∧ pm_fr [63, 68] V V') := by
  refine pm_MT.of (by decide) ⟨Nat.le_refl _, by decide⟩ (fun av V h => by rw [h.1]; exact (by decide : pm_words [(3, 0), (0, 0), (3, 0)] ≤ 6)) ?_
  rintro X av V0 hC - hR ⟨rfl, hV0⟩
  change pm_J X 0 [(0, (3, 63)), (1, (0, a1)), (2, (3, 83))] [] 118 V0
  refine pm_aload_n hC 0 (by decide) dX2_holds_0 rfl ?_
  refine pm_iconst (v := 0) hC dX2_holds_1 ?_
  refine pm_putf hC 63 fl_X2_35 rfl rfl rfl (by decide) rfl trivial dX2_holds_2 ?_
  refine pm_aload_n hC 0 (by decide) dX2_holds_5 rfl ?_
  have e1 : V0 63 2 = 65 := hV0.one 63 2 (by decide) (by decide) rfl
  refine pm_getf (v := 65) hC 63 fl_X2_19 rfl rfl (by decide) rfl e1 dX2_holds_6 ?_
  refine pm_iload_n hC 1 dX2_holds_9 rfl ?_
  obtain ⟨y2, e3⟩ : ∃ y, V0 65 (a1 : Int).toNat = y := ⟨_, rfl⟩
  have b4 := hV0.get 65 (a1 : Int).toNat (lo := 0) (hi := 500) (by decide) (show _ < 10 by omega) rfl
  rw [e3] at b4
  refine pm_iaload (len := 10) (v := y2) hC 65 rfl rfl (by decide) ⟨by omega, by omega⟩ (by decide) e3 dX2_holds_10 ?_
  refine pm_istore_n (lv' := [(3, (0, y2)), (0, (3, 63)), (1, (0, a1)), (2, (3, 83))]) hC dX2_holds_11 (by decide) rfl ?_
  have hV7 := (hV0.put 63 7 (x := 0) (lo := 0) (hi := 64) rfl ⟨by decide, by decide⟩)
  have hF8 := ((pm_fr.rf (ws := [63, 68]) (V := V0)).up 63 7 0 rfl)
  obtain ⟨V5, hv6⟩ : ∃ V, V = (pm_up V0 63 7 0) := ⟨_, rfl⟩
  rw [← hv6] at hV7 hF8
  rw [← hv6]
  have e9 : V5 63 2 = 65 := by rw [hv6]; exact e1
  have e10 : V5 63 7 = 0 := by rw [hv6]; rfl
  have L16 : ∀ (N18 : Nat) (x11 : Int) (V13 : pm_M), (0 ≤ x11 ∧ x11 ≤ 500) → pm_ok 0 90 V13 → pm_fr [63, 68] V0 V13 → (Int.toNat (500 - x11)) = N18 → pm_J X 12 [(0, (3, 63)), (1, (0, a1)), (2, (3, 83)), (3, (0, x11))] [] 118 V13 := by
    intro N18
    induction N18 using Nat.strongRecOn with
    | _ N18 ih19 =>
    intro x11 V13 b12 hV14 hF15 hm17
    refine pm_iload_n hC 3 dX2_holds_12 rfl ?_
    refine pm_aload_n hC 0 (by decide) dX2_holds_13 rfl ?_
    have e20 : V13 63 3 = 66 := hV14.one 63 3 (by decide) (by decide) rfl
    refine pm_getf (v := 66) hC 63 fl_X2_22 rfl rfl (by decide) rfl e20 dX2_holds_14 ?_
    refine pm_iload_n hC 1 dX2_holds_17 rfl ?_
    obtain ⟨y21, e22⟩ : ∃ y, V13 66 (a1 : Int).toNat = y := ⟨_, rfl⟩
    have b23 := hV14.get 66 (a1 : Int).toNat (lo := 0) (hi := 500) (by decide) (show _ < 10 by omega) rfl
    rw [e22] at b23
    refine pm_iaload (len := 10) (v := y21) hC 66 rfl rfl (by decide) ⟨by omega, by omega⟩ (by decide) e22 dX2_holds_18 ?_
    refine pm_icmp_ge (tgt := 107) hC ⟨by omega, by omega⟩ ⟨by omega, by omega⟩ dX2_holds_19 (by decide) (fun c24 => ?_) (fun c24 => ?_)
    · skip
      refine pm_iconst (v := 1) hC dX2_holds_107 ?_
      exact pm_iret hC hR (pm_narZ (by omega)) ⟨1, rfl, ⟨by omega, by omega⟩, hV14, hF15⟩ dX2_holds_108
    · skip
      refine pm_aload_n hC 0 (by decide) dX2_holds_22 rfl ?_
      have e25 : V13 63 4 = 67 := hV14.one 63 4 (by decide) (by decide) rfl
      refine pm_getf (v := 67) hC 63 fl_X2_25 rfl rfl (by decide) rfl e25 dX2_holds_23 ?_
      refine pm_iload_n hC 3 dX2_holds_26 rfl ?_
      obtain ⟨y26, e27⟩ : ∃ y, V13 67 (x11 : Int).toNat = y := ⟨_, rfl⟩
      have b28 := hV14.get 67 (x11 : Int).toNat (lo := 0) (hi := 30000) (by decide) (show _ < 500 by omega) rfl
      rw [e27] at b28
      refine pm_iaload (len := 500) (v := y26) hC 67 rfl rfl (by decide) ⟨by omega, by omega⟩ (by decide) e27 dX2_holds_27 ?_
      refine pm_istore (lv' := [(4, (0, y26)), (0, (3, 63)), (1, (0, a1)), (2, (3, 83)), (3, (0, x11))]) hC dX2_holds_28 (by decide) rfl ?_
      refine pm_iload hC 0 dX2_holds_30 rfl ?_
      refine pm_sipush (v := 10000) hC dX2_holds_32 (by decide) ?_
      refine pm_icmp_ge (tgt := 48) hC ⟨by omega, by omega⟩ ⟨by decide, by decide⟩ dX2_holds_35 (by decide) (fun c29 => ?_) (fun c29 => ?_)
      · skip
        refine pm_iload hC 0 dX2_holds_48 rfl ?_
        refine pm_sipush (v := 20000) hC dX2_holds_50 (by decide) ?_
        refine pm_icmp_ge (tgt := 86) hC ⟨by omega, by omega⟩ ⟨by decide, by decide⟩ dX2_holds_53 (by decide) (fun c30 => ?_) (fun c30 => ?_)
        · skip
          refine pm_aload_n hC 1 (by decide) dX2_holds_86 rfl ?_
          refine pm_iload hC 0 dX2_holds_87 rfl ?_
          refine pm_sipush (v := 20000) hC dX2_holds_89 (by decide) ?_
          refine pm_isub hC dX2_holds_92 ?_
          refine pm_callV (ci := 2) (as := [(0, (y26 - 20000))]) (st := []) hC 63 (c_X2_applies_63 (y26 - 20000) ⟨by omega, by omega⟩) lm_X2_42 li_X2_applies (by decide) (by decide) rfl rfl rfl (by decide) rfl rfl (Nat.le_of_ble_eq_true rfl) ⟨Nat.le_refl _, Or.inl rfl⟩ dX2_holds_93 ⟨rfl, hV14⟩ (fun r31 V32 hp33 => ?_)
          obtain ⟨y34, rfl, b35, hV36, hF37⟩ := hp33
          change pm_J X 96 [(4, (0, y26)), (0, (3, 63)), (1, (0, a1)), (2, (3, 83)), (3, (0, x11))] [(0, y34)] 118 V32
          have hF38 := pm_fr.tr hF15 hF37 (by decide)
          refine pm_if_ne (tgt := 101) hC ⟨by omega, by omega⟩ dX2_holds_96 (by decide) (fun c39 => ?_) (fun c39 => ?_)
          · skip
            obtain ⟨x40, ei41⟩ : ∃ y : Int, x11 + 1 = y := ⟨_, rfl⟩
            refine pm_iinc (y := x40) (lv' := [(3, (0, x40)), (4, (0, y26)), (0, (3, 63)), (1, (0, a1)), (2, (3, 83))]) hC 4 dX2_holds_101 (by decide) rfl ei41 rfl ?_
            refine pm_goto (tgt := 12) hC dX2_holds_104 (by decide) ?_
            refine pm_lvsub [2, 3, 4, 0] (lv' := [(0, (3, 63)), (1, (0, a1)), (2, (3, 83)), (3, (0, x40))]) rfl ?_
            exact ih19 _ (by omega) x40 V32 ⟨by omega, by omega⟩ hV36 hF38 rfl
          · skip
            refine pm_iconst (v := 0) hC dX2_holds_99 ?_
            exact pm_iret hC hR (pm_narZ (by omega)) ⟨0, rfl, ⟨by omega, by omega⟩, hV36, hF38⟩ dX2_holds_100
        · skip
          refine pm_iload hC 0 dX2_holds_56 rfl ?_
          refine pm_sipush (v := 10000) hC dX2_holds_58 (by decide) ?_
          refine pm_isub hC dX2_holds_61 ?_
          refine pm_istore (lv' := [(5, (0, (y26 - 10000))), (4, (0, y26)), (0, (3, 63)), (1, (0, a1)), (2, (3, 83)), (3, (0, x11))]) hC dX2_holds_62 (by decide) rfl ?_
          refine pm_aload_n hC 2 (by decide) dX2_holds_64 rfl ?_
          refine pm_iload hC 0 dX2_holds_65 rfl ?_
          refine pm_aload_n hC 4 (by decide) dX2_holds_67 rfl ?_
          refine pm_alen hC 83 rfl (by decide) rfl (by decide) dX2_holds_68 ?_
          change pm_J X 69 [(5, (0, (y26 - 10000))), (4, (0, y26)), (0, (3, 63)), (1, (0, a1)), (2, (3, 83)), (3, (0, x11))] [(0, 7), (0, (y26 - 10000)), (3, 63)] 118 V13
          refine pm_icmp_ge (tgt := 79) hC ⟨by omega, by omega⟩ ⟨by decide, by decide⟩ dX2_holds_69 (by decide) (fun c42 => ?_) (fun c42 => ?_)
          · skip
            refine pm_lconst (x := 0) hC dX2_holds_79 rfl ?_
            refine pm_callV (ci := 2) (as := [(1, 0)]) (st := []) hC 63 (c_X2_push_63 0 ⟨by decide, by decide⟩) lm_X2_38 li_X2_push (by decide) (by decide) rfl rfl rfl (by decide) rfl rfl (Nat.le_of_ble_eq_true rfl) ⟨Nat.le_refl _, Or.inl rfl⟩ dX2_holds_80 ⟨rfl, hV14⟩ (fun r43 V44 hp45 => ?_)
            obtain ⟨rfl, hV46, hF47⟩ := hp45
            change pm_J X 83 [(5, (0, (y26 - 10000))), (4, (0, y26)), (0, (3, 63)), (1, (0, a1)), (2, (3, 83)), (3, (0, x11))] [] 118 V44
            have hF48 := pm_fr.tr hF15 hF47 (by decide)
            refine pm_goto (tgt := 101) hC dX2_holds_83 (by decide) ?_
            obtain ⟨x49, ei50⟩ : ∃ y : Int, x11 + 1 = y := ⟨_, rfl⟩
            refine pm_iinc (y := x49) (lv' := [(3, (0, x49)), (5, (0, (y26 - 10000))), (4, (0, y26)), (0, (3, 63)), (1, (0, a1)), (2, (3, 83))]) hC 5 dX2_holds_101 (by decide) rfl ei50 rfl ?_
            refine pm_goto (tgt := 12) hC dX2_holds_104 (by decide) ?_
            refine pm_lvsub [3, 4, 5, 0] (lv' := [(0, (3, 63)), (1, (0, a1)), (2, (3, 83)), (3, (0, x49))]) rfl ?_
            exact ih19 _ (by omega) x49 V44 ⟨by omega, by omega⟩ hV46 hF48 rfl
          · skip
            refine pm_aload_n hC 4 (by decide) dX2_holds_72 rfl ?_
            refine pm_iload hC 0 dX2_holds_73 rfl ?_
            obtain ⟨y51, e52⟩ : ∃ y, V13 83 ((y26 - 10000) : Int).toNat = y := ⟨_, rfl⟩
            have b53 := hV14.get 83 ((y26 - 10000) : Int).toNat (lo := (-9223372036854775808)) (hi := 9223372036854775807) (by decide) (show _ < 7 by omega) rfl
            rw [e52] at b53
            refine pm_laload (len := 7) (v := y51) hC 83 rfl rfl (by decide) ⟨by omega, by omega⟩ (by decide) e52 dX2_holds_75 ?_
            refine pm_goto (tgt := 80) hC dX2_holds_76 (by decide) ?_
            refine pm_callV (ci := 2) (as := [(1, y51)]) (st := []) hC 63 (c_X2_push_63 y51 ⟨by omega, by omega⟩) lm_X2_38 li_X2_push (by decide) (by decide) rfl rfl rfl (by decide) rfl rfl (Nat.le_of_ble_eq_true rfl) ⟨Nat.le_refl _, Or.inl rfl⟩ dX2_holds_80 ⟨rfl, hV14⟩ (fun r54 V55 hp56 => ?_)
            obtain ⟨rfl, hV57, hF58⟩ := hp56
            change pm_J X 83 [(5, (0, (y26 - 10000))), (4, (0, y26)), (0, (3, 63)), (1, (0, a1)), (2, (3, 83)), (3, (0, x11))] [] 118 V55
            have hF59 := pm_fr.tr hF15 hF58 (by decide)
            refine pm_goto (tgt := 101) hC dX2_holds_83 (by decide) ?_
            obtain ⟨x60, ei61⟩ : ∃ y : Int, x11 + 1 = y := ⟨_, rfl⟩
            refine pm_iinc (y := x60) (lv' := [(3, (0, x60)), (5, (0, (y26 - 10000))), (4, (0, y26)), (0, (3, 63)), (1, (0, a1)), (2, (3, 83))]) hC 5 dX2_holds_101 (by decide) rfl ei61 rfl ?_
            refine pm_goto (tgt := 12) hC dX2_holds_104 (by decide) ?_
            refine pm_lvsub [3, 4, 5, 0] (lv' := [(0, (3, 63)), (1, (0, a1)), (2, (3, 83)), (3, (0, x60))]) rfl ?_
            exact ih19 _ (by omega) x60 V55 ⟨by omega, by omega⟩ hV57 hF59 rfl
      · skip
        refine pm_aload_n hC 1 (by decide) dX2_holds_38 rfl ?_
        refine pm_iload hC 0 dX2_holds_39 rfl ?_
        refine pm_i2l hC ⟨by omega, by omega⟩ dX2_holds_41 ?_
        refine pm_callV (ci := 2) (as := [(1, y26)]) (st := []) hC 63 (c_X2_push_63 y26 ⟨by omega, by omega⟩) lm_X2_38 li_X2_push (by decide) (by decide) rfl rfl rfl (by decide) rfl rfl (Nat.le_of_ble_eq_true rfl) ⟨Nat.le_refl _, Or.inl rfl⟩ dX2_holds_42 ⟨rfl, hV14⟩ (fun r62 V63 hp64 => ?_)
        obtain ⟨rfl, hV65, hF66⟩ := hp64
        change pm_J X 45 [(4, (0, y26)), (0, (3, 63)), (1, (0, a1)), (2, (3, 83)), (3, (0, x11))] [] 118 V63
        have hF67 := pm_fr.tr hF15 hF66 (by decide)
        refine pm_goto (tgt := 101) hC dX2_holds_45 (by decide) ?_
        obtain ⟨x68, ei69⟩ : ∃ y : Int, x11 + 1 = y := ⟨_, rfl⟩
        refine pm_iinc (y := x68) (lv' := [(3, (0, x68)), (4, (0, y26)), (0, (3, 63)), (1, (0, a1)), (2, (3, 83))]) hC 4 dX2_holds_101 (by decide) rfl ei69 rfl ?_
        refine pm_goto (tgt := 12) hC dX2_holds_104 (by decide) ?_
        refine pm_lvsub [2, 3, 4, 0] (lv' := [(0, (3, 63)), (1, (0, a1)), (2, (3, 83)), (3, (0, x68))]) rfl ?_
        exact ih19 _ (by omega) x68 V63 ⟨by omega, by omega⟩ hV65 hF67 rfl
  refine pm_lvsub [1, 2, 3, 0] (lv' := [(0, (3, 63)), (1, (0, a1)), (2, (3, 83)), (3, (0, y2))]) rfl ?_
  exact L16 _ y2 V5 ⟨by omega, by omega⟩ hV7 hF8 rfl
set_option maxHeartbeats 4000000 in
set_option maxRecDepth 100000 in
theorem c_X11_called_0 (a1 a2 a3 a4 : Int) (h0 : (-2147483648) ≤ a1 ∧ a1 ≤ 2147483647) (h1 : (-2147483648) ≤ a2 ∧ a2 ≤ 2147483647) (h2 : (-2147483648) ≤ a3 ∧ a3 ≤ 2147483647) (h3 : (-2147483648) ≤ a4 ∧ a4 ≤ 2147483647) : pm_K 6 yX11_called cX11_called 6 (some .int) (fun av V => av = [(3, 0), (0, a1), (0, a2), (0, a3), (0, a4)] ∧ pm_ok 0 90 V) (fun _ V r V' => ∃ y, r = some (0, y) ∧ ((-1) ≤ y ∧ y ≤ 9) ∧ pm_ok 0 90 V' ∧ pm_fr [57, 62, 63, 68, 73, 74, 75, 76, 77, 83] V V') := by
  refine pm_MT.of (by decide) ⟨Nat.le_refl _, by decide⟩ (fun av V h => by rw [h.1]; exact (by decide : pm_words [(3, 0), (0, 0), (0, 0), (0, 0), (0, 0)] ≤ 6)) ?_
  rintro X av V0 hC - hR ⟨rfl, hV0⟩
  change pm_J X 0 [(0, (3, 0)), (1, (0, a1)), (2, (0, a2)), (3, (0, a3)), (4, (0, a4))] [] 118 V0
  refine pm_iload hC 4 dX11_called_0 rfl ?_
  refine pm_if_eq (tgt := 11) hC ⟨by omega, by omega⟩ dX11_called_2 (by decide) (fun c1 => ?_) (fun c1 => ?_)
  · skip
    refine pm_aload_n hC 0 (by decide) dX11_called_11 rfl ?_
    refine pm_iload_n hC 1 dX11_called_12 rfl ?_
    refine pm_iload_n hC 2 dX11_called_13 rfl ?_
    refine pm_iload_n hC 3 dX11_called_14 rfl ?_
    refine pm_callV (ci := 11) (as := [(0, a1), (0, a2), (0, a3)]) (st := []) hC 0 (c_X11_isTrial_0 a1 a2 a3 ⟨by omega, by omega⟩ ⟨by omega, by omega⟩ ⟨by omega, by omega⟩) lm_X11_225 li_X11_isTrial (by decide) (by decide) rfl rfl rfl (by decide) rfl rfl (Nat.le_of_ble_eq_true rfl) ⟨Nat.le_refl _, Or.inl rfl⟩ dX11_called_15 ⟨rfl, hV0⟩ (fun r2 V3 hp4 => ?_)
    obtain ⟨y5, rfl, b6, rfl⟩ := hp4
    change pm_J X 18 [(0, (3, 0)), (1, (0, a1)), (2, (0, a2)), (3, (0, a3)), (4, (0, a4))] [(0, y5)] 118 V0
    refine pm_if_ne (tgt := 23) hC ⟨by omega, by omega⟩ dX11_called_18 (by decide) (fun c7 => ?_) (fun c7 => ?_)
    · skip
      refine pm_aload_n hC 0 (by decide) dX11_called_23 rfl ?_
      refine pm_iload_n hC 1 dX11_called_24 rfl ?_
      refine pm_iload_n hC 2 dX11_called_25 rfl ?_
      refine pm_iload_n hC 3 dX11_called_26 rfl ?_
      refine pm_callV (ci := 11) (as := [(0, a1), (0, a2), (0, a3)]) (st := []) hC 0 (c_X11_pose_0 a1 a2 a3 ⟨by omega, by omega⟩ ⟨by omega, by omega⟩ ⟨by omega, by omega⟩ (by omega)) lm_X11_229 li_X11_pose (by decide) (by decide) rfl rfl rfl (by decide) rfl rfl (Nat.le_of_ble_eq_true rfl) ⟨Nat.le_refl _, Or.inl rfl⟩ dX11_called_27 ⟨rfl, hV0⟩ (fun r8 V9 hp10 => ?_)
      obtain ⟨rfl, hV11, hF12⟩ := hp10
      change pm_J X 30 [(0, (3, 0)), (1, (0, a1)), (2, (0, a2)), (3, (0, a3)), (4, (0, a4))] [] 118 V9
      have hF13 := pm_fr.tr (pm_fr.rf (ws := [57, 62, 63, 68, 73, 74, 75, 76, 77, 83]) (V := V0)) hF12 (by decide)
      refine pm_aload_n hC 0 (by decide) dX11_called_30 rfl ?_
      refine pm_iload_n hC 3 dX11_called_31 rfl ?_
      refine pm_callV (ci := 11) (as := [(0, a3)]) (st := []) hC 0 (c_X11_fillAtoms_0 a3 ⟨by omega, by omega⟩) lm_X11_321 li_X11_fillAtoms (by decide) (by decide) rfl rfl rfl (by decide) rfl rfl (Nat.le_of_ble_eq_true rfl) ⟨Nat.le_refl _, Or.inl rfl⟩ dX11_called_32 ⟨rfl, hV11⟩ (fun r14 V15 hp16 => ?_)
      obtain ⟨rfl, hV17, hF18⟩ := hp16
      change pm_J X 35 [(0, (3, 0)), (1, (0, a1)), (2, (0, a2)), (3, (0, a3)), (4, (0, a4))] [] 118 V15
      have hF19 := pm_fr.tr hF13 hF18 (by decide)
      refine pm_iconst (v := 0) hC dX11_called_35 ?_
      refine pm_istore (lv' := [(5, (0, 0)), (0, (3, 0)), (1, (0, a1)), (2, (0, a2)), (3, (0, a3)), (4, (0, a4))]) hC dX11_called_36 (by decide) rfl ?_
      have L25 : ∀ (N27 : Nat) (x20 : Int) (V22 : pm_M), (0 ≤ x20 ∧ x20 ≤ 16) → pm_ok 0 90 V22 → pm_fr [57, 62, 63, 68, 73, 74, 75, 76, 77, 83] V0 V22 → (Int.toNat (16 - x20)) = N27 → pm_J X 38 [(0, (3, 0)), (1, (0, a1)), (2, (0, a2)), (3, (0, a3)), (4, (0, a4)), (5, (0, x20))] [] 118 V22 := by
        intro N27
        induction N27 using Nat.strongRecOn with
        | _ N27 ih28 =>
        intro x20 V22 b21 hV23 hF24 hm26
        refine pm_iload hC 5 dX11_called_38 rfl ?_
        refine pm_aload_n hC 0 (by decide) dX11_called_40 rfl ?_
        rcases hV23.get2 0 10 (lo := 57) (hi := 63) (by decide) (by decide) rfl with e29 | e29
        · skip
          refine pm_getf (v := 57) hC 0 fl_X11_45 rfl rfl (by decide) rfl e29 dX11_called_41 ?_
          obtain ⟨y30, e31⟩ : ∃ y, V22 57 0 = y := ⟨_, rfl⟩
          have b32 := hV23.get 57 0 (lo := 0) (hi := 10) (by decide) (by decide) rfl
          rw [e31] at b32
          refine pm_getf (v := y30) hC 57 fl_X11_139 rfl rfl (by decide) rfl e31 dX11_called_44 ?_
          refine pm_icmp_ge (tgt := 93) hC ⟨by omega, by omega⟩ ⟨by omega, by omega⟩ dX11_called_47 (by decide) (fun c33 => ?_) (fun c33 => ?_)
          · skip
            refine pm_iconst (v := (-1)) hC dX11_called_93 ?_
            exact pm_iret hC hR pm_nar0 ⟨(-1), rfl, ⟨by omega, by omega⟩, hV23, hF24⟩ dX11_called_94
          · skip
            refine pm_aload_n hC 0 (by decide) dX11_called_50 rfl ?_
            refine pm_getf (v := 57) hC 0 fl_X11_45 rfl rfl (by decide) rfl e29 dX11_called_51 ?_
            refine pm_iload hC 5 dX11_called_54 rfl ?_
            refine pm_aload_n hC 0 (by decide) dX11_called_56 rfl ?_
            have e34 : V22 0 7 = 83 := hV23.one 0 7 (by decide) (by decide) rfl
            refine pm_getf (v := 83) hC 0 fl_X11_86 rfl rfl (by decide) rfl e34 dX11_called_57 ?_
            refine pm_callV (ci := 2) (as := [(0, x20), (3, 83)]) (st := []) hC 57 (c_X2_holds_57_83 x20 ⟨by omega, by omega⟩) lm_X11_324 li_X2_holds (by decide) (by decide) rfl rfl rfl (by decide) rfl rfl (Nat.le_of_ble_eq_true rfl) ⟨Nat.le_refl _, Or.inl rfl⟩ dX11_called_60 ⟨rfl, hV23⟩ (fun r35 V36 hp37 => ?_)
            obtain ⟨y38, rfl, b39, hV40, hF41⟩ := hp37
            change pm_J X 63 [(0, (3, 0)), (1, (0, a1)), (2, (0, a2)), (3, (0, a3)), (4, (0, a4)), (5, (0, x20))] [(0, y38)] 118 V36
            have hF42 := pm_fr.tr hF24 hF41 (by decide)
            have e43 : V36 0 10 = 57 := by rw [hF41 0 (by decide)]; exact e29
            have e44 : V36 0 7 = 83 := by rw [hF41 0 (by decide)]; exact e34
            refine pm_if_eq (tgt := 87) hC ⟨by omega, by omega⟩ dX11_called_63 (by decide) (fun c45 => ?_) (fun c45 => ?_)
            · skip
              obtain ⟨x46, ei47⟩ : ∃ y : Int, x20 + 1 = y := ⟨_, rfl⟩
              refine pm_iinc (y := x46) (lv' := [(5, (0, x46)), (0, (3, 0)), (1, (0, a1)), (2, (0, a2)), (3, (0, a3)), (4, (0, a4))]) hC 5 dX11_called_87 (by decide) rfl ei47 rfl ?_
              refine pm_goto (tgt := 38) hC dX11_called_90 (by decide) ?_
              refine pm_lvsub [1, 2, 3, 4, 5, 0] (lv' := [(0, (3, 0)), (1, (0, a1)), (2, (0, a2)), (3, (0, a3)), (4, (0, a4)), (5, (0, x46))]) rfl ?_
              exact ih28 _ (by omega) x46 V36 ⟨by omega, by omega⟩ hV40 hF42 rfl
            · skip
              refine pm_iload hC 4 dX11_called_66 rfl ?_
              refine pm_if_ne (tgt := 84) hC ⟨by omega, by omega⟩ dX11_called_68 (by decide) (fun c48 => ?_) (fun c48 => ?_)
              · skip
                exfalso; omega
              · skip
                refine pm_aload_n hC 0 (by decide) dX11_called_71 rfl ?_
                refine pm_getf (v := 57) hC 0 fl_X11_45 rfl rfl (by decide) rfl e43 dX11_called_72 ?_
                have e49 : V36 57 1 = 58 := hV40.one 57 1 (by decide) (by decide) rfl
                refine pm_getf (v := 58) hC 57 fl_X11_328 rfl rfl (by decide) rfl e49 dX11_called_75 ?_
                refine pm_iload hC 5 dX11_called_78 rfl ?_
                obtain ⟨y50, e51⟩ : ∃ y, V36 58 (x20 : Int).toNat = y := ⟨_, rfl⟩
                have b52 := hV40.get 58 (x20 : Int).toNat (lo := 0) (hi := 3) (by decide) (show _ < 10 by omega) rfl
                rw [e51] at b52
                refine pm_iaload (len := 10) (v := y50) hC 58 rfl rfl (by decide) ⟨by omega, by omega⟩ (by decide) e51 dX11_called_80 ?_
                refine pm_goto (tgt := 86) hC dX11_called_81 (by decide) ?_
                exact pm_iret hC hR pm_nar0 ⟨y50, rfl, ⟨by omega, by omega⟩, hV40, hF42⟩ dX11_called_86
        · skip
          refine pm_getf (v := 63) hC 0 fl_X11_45 rfl rfl (by decide) rfl e29 dX11_called_41 ?_
          obtain ⟨y53, e54⟩ : ∃ y, V22 63 0 = y := ⟨_, rfl⟩
          have b55 := hV23.get 63 0 (lo := 0) (hi := 10) (by decide) (by decide) rfl
          rw [e54] at b55
          refine pm_getf (v := y53) hC 63 fl_X11_139 rfl rfl (by decide) rfl e54 dX11_called_44 ?_
          refine pm_icmp_ge (tgt := 93) hC ⟨by omega, by omega⟩ ⟨by omega, by omega⟩ dX11_called_47 (by decide) (fun c56 => ?_) (fun c56 => ?_)
          · skip
            refine pm_iconst (v := (-1)) hC dX11_called_93 ?_
            exact pm_iret hC hR pm_nar0 ⟨(-1), rfl, ⟨by omega, by omega⟩, hV23, hF24⟩ dX11_called_94
          · skip
            refine pm_aload_n hC 0 (by decide) dX11_called_50 rfl ?_
            refine pm_getf (v := 63) hC 0 fl_X11_45 rfl rfl (by decide) rfl e29 dX11_called_51 ?_
            refine pm_iload hC 5 dX11_called_54 rfl ?_
            refine pm_aload_n hC 0 (by decide) dX11_called_56 rfl ?_
            have e57 : V22 0 7 = 83 := hV23.one 0 7 (by decide) (by decide) rfl
            refine pm_getf (v := 83) hC 0 fl_X11_86 rfl rfl (by decide) rfl e57 dX11_called_57 ?_
            refine pm_callV (ci := 2) (as := [(0, x20), (3, 83)]) (st := []) hC 63 (c_X2_holds_63_83 x20 ⟨by omega, by omega⟩) lm_X11_324 li_X2_holds (by decide) (by decide) rfl rfl rfl (by decide) rfl rfl (Nat.le_of_ble_eq_true rfl) ⟨Nat.le_refl _, Or.inl rfl⟩ dX11_called_60 ⟨rfl, hV23⟩ (fun r58 V59 hp60 => ?_)
            obtain ⟨y61, rfl, b62, hV63, hF64⟩ := hp60
            change pm_J X 63 [(0, (3, 0)), (1, (0, a1)), (2, (0, a2)), (3, (0, a3)), (4, (0, a4)), (5, (0, x20))] [(0, y61)] 118 V59
            have hF65 := pm_fr.tr hF24 hF64 (by decide)
            have e66 : V59 0 10 = 63 := by rw [hF64 0 (by decide)]; exact e29
            have e67 : V59 0 7 = 83 := by rw [hF64 0 (by decide)]; exact e57
            refine pm_if_eq (tgt := 87) hC ⟨by omega, by omega⟩ dX11_called_63 (by decide) (fun c68 => ?_) (fun c68 => ?_)
            · skip
              obtain ⟨x69, ei70⟩ : ∃ y : Int, x20 + 1 = y := ⟨_, rfl⟩
              refine pm_iinc (y := x69) (lv' := [(5, (0, x69)), (0, (3, 0)), (1, (0, a1)), (2, (0, a2)), (3, (0, a3)), (4, (0, a4))]) hC 5 dX11_called_87 (by decide) rfl ei70 rfl ?_
              refine pm_goto (tgt := 38) hC dX11_called_90 (by decide) ?_
              refine pm_lvsub [1, 2, 3, 4, 5, 0] (lv' := [(0, (3, 0)), (1, (0, a1)), (2, (0, a2)), (3, (0, a3)), (4, (0, a4)), (5, (0, x69))]) rfl ?_
              exact ih28 _ (by omega) x69 V59 ⟨by omega, by omega⟩ hV63 hF65 rfl
            · skip
              refine pm_iload hC 4 dX11_called_66 rfl ?_
              refine pm_if_ne (tgt := 84) hC ⟨by omega, by omega⟩ dX11_called_68 (by decide) (fun c71 => ?_) (fun c71 => ?_)
              · skip
                exfalso; omega
              · skip
                refine pm_aload_n hC 0 (by decide) dX11_called_71 rfl ?_
                refine pm_getf (v := 63) hC 0 fl_X11_45 rfl rfl (by decide) rfl e66 dX11_called_72 ?_
                have e72 : V59 63 1 = 64 := hV63.one 63 1 (by decide) (by decide) rfl
                refine pm_getf (v := 64) hC 63 fl_X11_328 rfl rfl (by decide) rfl e72 dX11_called_75 ?_
                refine pm_iload hC 5 dX11_called_78 rfl ?_
                obtain ⟨y73, e74⟩ : ∃ y, V59 64 (x20 : Int).toNat = y := ⟨_, rfl⟩
                have b75 := hV63.get 64 (x20 : Int).toNat (lo := 0) (hi := 3) (by decide) (show _ < 10 by omega) rfl
                rw [e74] at b75
                refine pm_iaload (len := 10) (v := y73) hC 64 rfl rfl (by decide) ⟨by omega, by omega⟩ (by decide) e74 dX11_called_80 ?_
                refine pm_goto (tgt := 86) hC dX11_called_81 (by decide) ?_
                exact pm_iret hC hR pm_nar0 ⟨y73, rfl, ⟨by omega, by omega⟩, hV63, hF65⟩ dX11_called_86
      refine pm_lvsub [1, 2, 3, 4, 5, 0] (lv' := [(0, (3, 0)), (1, (0, a1)), (2, (0, a2)), (3, (0, a3)), (4, (0, a4)), (5, (0, 0))]) rfl ?_
      exact L25 _ 0 V15 ⟨by decide, by decide⟩ hV17 hF19 rfl
    · skip
      refine pm_iconst (v := (-1)) hC dX11_called_21 ?_
      exact pm_iret hC hR pm_nar0 ⟨(-1), rfl, ⟨by omega, by omega⟩, hV0, (pm_fr.rf (ws := [57, 62, 63, 68, 73, 74, 75, 76, 77, 83]) (V := V0))⟩ dX11_called_22
  · skip
    refine pm_iload hC 4 dX11_called_5 rfl ?_
    refine pm_iconst (v := 1) hC dX11_called_7 ?_
    refine pm_icmp_ne (tgt := 21) hC ⟨by omega, by omega⟩ ⟨by decide, by decide⟩ dX11_called_8 (by decide) (fun c76 => ?_) (fun c76 => ?_)
    · skip
      refine pm_iconst (v := (-1)) hC dX11_called_21 ?_
      exact pm_iret hC hR pm_nar0 ⟨(-1), rfl, ⟨by omega, by omega⟩, hV0, (pm_fr.rf (ws := [57, 62, 63, 68, 73, 74, 75, 76, 77, 83]) (V := V0))⟩ dX11_called_22
    · skip
      refine pm_aload_n hC 0 (by decide) dX11_called_11 rfl ?_
      refine pm_iload_n hC 1 dX11_called_12 rfl ?_
      refine pm_iload_n hC 2 dX11_called_13 rfl ?_
      refine pm_iload_n hC 3 dX11_called_14 rfl ?_
      refine pm_callV (ci := 11) (as := [(0, a1), (0, a2), (0, a3)]) (st := []) hC 0 (c_X11_isTrial_0 a1 a2 a3 ⟨by omega, by omega⟩ ⟨by omega, by omega⟩ ⟨by omega, by omega⟩) lm_X11_225 li_X11_isTrial (by decide) (by decide) rfl rfl rfl (by decide) rfl rfl (Nat.le_of_ble_eq_true rfl) ⟨Nat.le_refl _, Or.inl rfl⟩ dX11_called_15 ⟨rfl, hV0⟩ (fun r77 V78 hp79 => ?_)
      obtain ⟨y80, rfl, b81, rfl⟩ := hp79
      change pm_J X 18 [(0, (3, 0)), (1, (0, a1)), (2, (0, a2)), (3, (0, a3)), (4, (0, a4))] [(0, y80)] 118 V0
      refine pm_if_ne (tgt := 23) hC ⟨by omega, by omega⟩ dX11_called_18 (by decide) (fun c82 => ?_) (fun c82 => ?_)
      · skip
        refine pm_aload_n hC 0 (by decide) dX11_called_23 rfl ?_
        refine pm_iload_n hC 1 dX11_called_24 rfl ?_
        refine pm_iload_n hC 2 dX11_called_25 rfl ?_
        refine pm_iload_n hC 3 dX11_called_26 rfl ?_
        refine pm_callV (ci := 11) (as := [(0, a1), (0, a2), (0, a3)]) (st := []) hC 0 (c_X11_pose_0 a1 a2 a3 ⟨by omega, by omega⟩ ⟨by omega, by omega⟩ ⟨by omega, by omega⟩ (by omega)) lm_X11_229 li_X11_pose (by decide) (by decide) rfl rfl rfl (by decide) rfl rfl (Nat.le_of_ble_eq_true rfl) ⟨Nat.le_refl _, Or.inl rfl⟩ dX11_called_27 ⟨rfl, hV0⟩ (fun r83 V84 hp85 => ?_)
        obtain ⟨rfl, hV86, hF87⟩ := hp85
        change pm_J X 30 [(0, (3, 0)), (1, (0, a1)), (2, (0, a2)), (3, (0, a3)), (4, (0, a4))] [] 118 V84
        have hF88 := pm_fr.tr (pm_fr.rf (ws := [57, 62, 63, 68, 73, 74, 75, 76, 77, 83]) (V := V0)) hF87 (by decide)
        refine pm_aload_n hC 0 (by decide) dX11_called_30 rfl ?_
        refine pm_iload_n hC 3 dX11_called_31 rfl ?_
        refine pm_callV (ci := 11) (as := [(0, a3)]) (st := []) hC 0 (c_X11_fillAtoms_0 a3 ⟨by omega, by omega⟩) lm_X11_321 li_X11_fillAtoms (by decide) (by decide) rfl rfl rfl (by decide) rfl rfl (Nat.le_of_ble_eq_true rfl) ⟨Nat.le_refl _, Or.inl rfl⟩ dX11_called_32 ⟨rfl, hV86⟩ (fun r89 V90 hp91 => ?_)
        obtain ⟨rfl, hV92, hF93⟩ := hp91
        change pm_J X 35 [(0, (3, 0)), (1, (0, a1)), (2, (0, a2)), (3, (0, a3)), (4, (0, a4))] [] 118 V90
        have hF94 := pm_fr.tr hF88 hF93 (by decide)
        refine pm_iconst (v := 0) hC dX11_called_35 ?_
        refine pm_istore (lv' := [(5, (0, 0)), (0, (3, 0)), (1, (0, a1)), (2, (0, a2)), (3, (0, a3)), (4, (0, a4))]) hC dX11_called_36 (by decide) rfl ?_
        have L100 : ∀ (N102 : Nat) (x95 : Int) (V97 : pm_M), (0 ≤ x95 ∧ x95 ≤ 16) → pm_ok 0 90 V97 → pm_fr [57, 62, 63, 68, 73, 74, 75, 76, 77, 83] V0 V97 → (Int.toNat (16 - x95)) = N102 → pm_J X 38 [(0, (3, 0)), (1, (0, a1)), (2, (0, a2)), (3, (0, a3)), (4, (0, a4)), (5, (0, x95))] [] 118 V97 := by
          intro N102
          induction N102 using Nat.strongRecOn with
          | _ N102 ih103 =>
          intro x95 V97 b96 hV98 hF99 hm101
          refine pm_iload hC 5 dX11_called_38 rfl ?_
          refine pm_aload_n hC 0 (by decide) dX11_called_40 rfl ?_
          rcases hV98.get2 0 10 (lo := 57) (hi := 63) (by decide) (by decide) rfl with e104 | e104
          · skip
            refine pm_getf (v := 57) hC 0 fl_X11_45 rfl rfl (by decide) rfl e104 dX11_called_41 ?_
            obtain ⟨y105, e106⟩ : ∃ y, V97 57 0 = y := ⟨_, rfl⟩
            have b107 := hV98.get 57 0 (lo := 0) (hi := 10) (by decide) (by decide) rfl
            rw [e106] at b107
            refine pm_getf (v := y105) hC 57 fl_X11_139 rfl rfl (by decide) rfl e106 dX11_called_44 ?_
            refine pm_icmp_ge (tgt := 93) hC ⟨by omega, by omega⟩ ⟨by omega, by omega⟩ dX11_called_47 (by decide) (fun c108 => ?_) (fun c108 => ?_)
            · skip
              refine pm_iconst (v := (-1)) hC dX11_called_93 ?_
              exact pm_iret hC hR pm_nar0 ⟨(-1), rfl, ⟨by omega, by omega⟩, hV98, hF99⟩ dX11_called_94
            · skip
              refine pm_aload_n hC 0 (by decide) dX11_called_50 rfl ?_
              refine pm_getf (v := 57) hC 0 fl_X11_45 rfl rfl (by decide) rfl e104 dX11_called_51 ?_
              refine pm_iload hC 5 dX11_called_54 rfl ?_
              refine pm_aload_n hC 0 (by decide) dX11_called_56 rfl ?_
              have e109 : V97 0 7 = 83 := hV98.one 0 7 (by decide) (by decide) rfl
              refine pm_getf (v := 83) hC 0 fl_X11_86 rfl rfl (by decide) rfl e109 dX11_called_57 ?_
              refine pm_callV (ci := 2) (as := [(0, x95), (3, 83)]) (st := []) hC 57 (c_X2_holds_57_83 x95 ⟨by omega, by omega⟩) lm_X11_324 li_X2_holds (by decide) (by decide) rfl rfl rfl (by decide) rfl rfl (Nat.le_of_ble_eq_true rfl) ⟨Nat.le_refl _, Or.inl rfl⟩ dX11_called_60 ⟨rfl, hV98⟩ (fun r110 V111 hp112 => ?_)
              obtain ⟨y113, rfl, b114, hV115, hF116⟩ := hp112
              change pm_J X 63 [(0, (3, 0)), (1, (0, a1)), (2, (0, a2)), (3, (0, a3)), (4, (0, a4)), (5, (0, x95))] [(0, y113)] 118 V111
              have hF117 := pm_fr.tr hF99 hF116 (by decide)
              have e118 : V111 0 10 = 57 := by rw [hF116 0 (by decide)]; exact e104
              have e119 : V111 0 7 = 83 := by rw [hF116 0 (by decide)]; exact e109
              refine pm_if_eq (tgt := 87) hC ⟨by omega, by omega⟩ dX11_called_63 (by decide) (fun c120 => ?_) (fun c120 => ?_)
              · skip
                obtain ⟨x121, ei122⟩ : ∃ y : Int, x95 + 1 = y := ⟨_, rfl⟩
                refine pm_iinc (y := x121) (lv' := [(5, (0, x121)), (0, (3, 0)), (1, (0, a1)), (2, (0, a2)), (3, (0, a3)), (4, (0, a4))]) hC 5 dX11_called_87 (by decide) rfl ei122 rfl ?_
                refine pm_goto (tgt := 38) hC dX11_called_90 (by decide) ?_
                refine pm_lvsub [1, 2, 3, 4, 5, 0] (lv' := [(0, (3, 0)), (1, (0, a1)), (2, (0, a2)), (3, (0, a3)), (4, (0, a4)), (5, (0, x121))]) rfl ?_
                exact ih103 _ (by omega) x121 V111 ⟨by omega, by omega⟩ hV115 hF117 rfl
              · skip
                refine pm_iload hC 4 dX11_called_66 rfl ?_
                refine pm_if_ne (tgt := 84) hC ⟨by omega, by omega⟩ dX11_called_68 (by decide) (fun c123 => ?_) (fun c123 => ?_)
                · skip
                  refine pm_iload hC 5 dX11_called_84 rfl ?_
                  exact pm_iret hC hR pm_nar0 ⟨x95, rfl, ⟨by omega, by omega⟩, hV115, hF117⟩ dX11_called_86
                · skip
                  exfalso; omega
          · skip
            refine pm_getf (v := 63) hC 0 fl_X11_45 rfl rfl (by decide) rfl e104 dX11_called_41 ?_
            obtain ⟨y124, e125⟩ : ∃ y, V97 63 0 = y := ⟨_, rfl⟩
            have b126 := hV98.get 63 0 (lo := 0) (hi := 10) (by decide) (by decide) rfl
            rw [e125] at b126
            refine pm_getf (v := y124) hC 63 fl_X11_139 rfl rfl (by decide) rfl e125 dX11_called_44 ?_
            refine pm_icmp_ge (tgt := 93) hC ⟨by omega, by omega⟩ ⟨by omega, by omega⟩ dX11_called_47 (by decide) (fun c127 => ?_) (fun c127 => ?_)
            · skip
              refine pm_iconst (v := (-1)) hC dX11_called_93 ?_
              exact pm_iret hC hR pm_nar0 ⟨(-1), rfl, ⟨by omega, by omega⟩, hV98, hF99⟩ dX11_called_94
            · skip
              refine pm_aload_n hC 0 (by decide) dX11_called_50 rfl ?_
              refine pm_getf (v := 63) hC 0 fl_X11_45 rfl rfl (by decide) rfl e104 dX11_called_51 ?_
              refine pm_iload hC 5 dX11_called_54 rfl ?_
              refine pm_aload_n hC 0 (by decide) dX11_called_56 rfl ?_
              have e128 : V97 0 7 = 83 := hV98.one 0 7 (by decide) (by decide) rfl
              refine pm_getf (v := 83) hC 0 fl_X11_86 rfl rfl (by decide) rfl e128 dX11_called_57 ?_
              refine pm_callV (ci := 2) (as := [(0, x95), (3, 83)]) (st := []) hC 63 (c_X2_holds_63_83 x95 ⟨by omega, by omega⟩) lm_X11_324 li_X2_holds (by decide) (by decide) rfl rfl rfl (by decide) rfl rfl (Nat.le_of_ble_eq_true rfl) ⟨Nat.le_refl _, Or.inl rfl⟩ dX11_called_60 ⟨rfl, hV98⟩ (fun r129 V130 hp131 => ?_)
              obtain ⟨y132, rfl, b133, hV134, hF135⟩ := hp131
              change pm_J X 63 [(0, (3, 0)), (1, (0, a1)), (2, (0, a2)), (3, (0, a3)), (4, (0, a4)), (5, (0, x95))] [(0, y132)] 118 V130
              have hF136 := pm_fr.tr hF99 hF135 (by decide)
              have e137 : V130 0 10 = 63 := by rw [hF135 0 (by decide)]; exact e104
              have e138 : V130 0 7 = 83 := by rw [hF135 0 (by decide)]; exact e128
              refine pm_if_eq (tgt := 87) hC ⟨by omega, by omega⟩ dX11_called_63 (by decide) (fun c139 => ?_) (fun c139 => ?_)
              · skip
                obtain ⟨x140, ei141⟩ : ∃ y : Int, x95 + 1 = y := ⟨_, rfl⟩
                refine pm_iinc (y := x140) (lv' := [(5, (0, x140)), (0, (3, 0)), (1, (0, a1)), (2, (0, a2)), (3, (0, a3)), (4, (0, a4))]) hC 5 dX11_called_87 (by decide) rfl ei141 rfl ?_
                refine pm_goto (tgt := 38) hC dX11_called_90 (by decide) ?_
                refine pm_lvsub [1, 2, 3, 4, 5, 0] (lv' := [(0, (3, 0)), (1, (0, a1)), (2, (0, a2)), (3, (0, a3)), (4, (0, a4)), (5, (0, x140))]) rfl ?_
                exact ih103 _ (by omega) x140 V130 ⟨by omega, by omega⟩ hV134 hF136 rfl
              · skip
                refine pm_iload hC 4 dX11_called_66 rfl ?_
                refine pm_if_ne (tgt := 84) hC ⟨by omega, by omega⟩ dX11_called_68 (by decide) (fun c142 => ?_) (fun c142 => ?_)
                · skip
                  refine pm_iload hC 5 dX11_called_84 rfl ?_
                  exact pm_iret hC hR pm_nar0 ⟨x95, rfl, ⟨by omega, by omega⟩, hV134, hF136⟩ dX11_called_86
                · skip
                  exfalso; omega
        refine pm_lvsub [1, 2, 3, 4, 5, 0] (lv' := [(0, (3, 0)), (1, (0, a1)), (2, (0, a2)), (3, (0, a3)), (4, (0, a4)), (5, (0, 0))]) rfl ?_
        exact L100 _ 0 V90 ⟨by decide, by decide⟩ hV92 hF94 rfl
      · skip
        refine pm_iconst (v := (-1)) hC dX11_called_21 ?_
        exact pm_iret hC hR pm_nar0 ⟨(-1), rfl, ⟨by omega, by omega⟩, hV0, (pm_fr.rf (ws := [57, 62, 63, 68, 73, 74, 75, 76, 77, 83]) (V := V0))⟩ dX11_called_22
set_option maxHeartbeats 4000000 in
set_option maxRecDepth 100000 in
theorem c_X11_lotBelow_0 (a1 : Int) (h0 : (-9223372036854775808) ≤ a1 ∧ a1 ≤ 9223372036854775807) : pm_K 1 yX11_lotBelow cX11_lotBelow 3 (some .int) (fun av V => av = [(3, 0), (1, a1)] ∧ pm_ok 0 90 V) (fun _ V r V' => ∃ y, r = some (0, y) ∧ (0 ≤ y ∧ y ≤ 8388607 ∧ (0 ≤ y) ∧ (0 < a1 → y < a1) ∧ (a1 ≤ 0 → y = 0)) ∧ pm_ok 0 90 V' ∧ pm_fr [0] V V') := by
  refine pm_MT.of (by decide) ⟨Nat.le_refl _, by decide⟩ (fun av V h => by rw [h.1]; exact (by decide : pm_words [(3, 0), (1, 0)] ≤ 3)) ?_
  rintro X av V0 hC - hR ⟨rfl, hV0⟩
  change pm_J X 0 [(0, (3, 0)), (1, (1, a1))] [] 118 V0
  refine pm_aload_n hC 0 (by decide) dX11_lotBelow_0 rfl ?_
  refine pm_aload_n hC 0 (by decide) dX11_lotBelow_1 rfl ?_
  obtain ⟨y1, e2⟩ : ∃ y, V0 0 16 = y := ⟨_, rfl⟩
  have b3 := hV0.get 0 16 (lo := (-9223372036854775808)) (hi := 9223372036854775807) (by decide) (by decide) rfl
  rw [e2] at b3
  refine pm_getf (v := y1) hC 0 fl_X11_107 rfl rfl (by decide) rfl e2 dX11_lotBelow_2 ?_
  refine pm_ldc2 (v := 1103515245) hC 5093 dX11_lotBelow_5 (by decide +kernel) ?_
  refine pm_lmul hC dX11_lotBelow_8 ?_
  refine pm_someL hC (fun y4 b5 => ?_)
  have b5 := And.intro b5.1 b5.2
  refine pm_ldc2 (v := 12345) hC 5094 dX11_lotBelow_9 (by decide +kernel) ?_
  refine pm_ladd hC dX11_lotBelow_12 ?_
  refine pm_someL hC (fun y6 b7 => ?_)
  have b7 := And.intro b7.1 b7.2
  refine pm_ldc2 (v := 2147483647) hC 5095 dX11_lotBelow_13 (by decide +kernel) ?_
  refine pm_land hC dX11_lotBelow_16 ?_
  have b9 := pm_landb (x := y6) (y := 2147483647) (by decide)
  generalize (pm_landV y6 2147483647) = y8 at b9 ⊢
  refine pm_putf hC 0 fl_X11_107 rfl rfl rfl (by decide) rfl trivial dX11_lotBelow_17 ?_
  refine pm_lload_n hC 1 dX11_lotBelow_20 rfl ?_
  refine pm_lconst (x := 0) hC dX11_lotBelow_21 rfl ?_
  refine pm_lcmp hC ⟨by omega, by omega⟩ ⟨by decide, by decide⟩ dX11_lotBelow_22 (fun y10 b11 => ?_)
  refine pm_if_gt (tgt := 30) hC ⟨by omega, by omega⟩ dX11_lotBelow_23 (by decide) (fun c12 => ?_) (fun c12 => ?_)
  · skip
    refine pm_aload_n hC 0 (by decide) dX11_lotBelow_30 rfl ?_
    refine pm_getf (v := y8) hC 0 fl_X11_107 rfl rfl (by decide) rfl rfl dX11_lotBelow_31 ?_
    refine pm_ldc2 (v := 256) hC 5096 dX11_lotBelow_34 (by decide +kernel) ?_
    refine pm_ldiv hC ⟨by omega, by omega, by omega⟩ ⟨by decide, by decide, by decide⟩ dX11_lotBelow_37 ?_
    refine pm_lload_n hC 1 dX11_lotBelow_38 rfl ?_
    refine pm_lrem hC ⟨by omega, by omega, by omega⟩ ⟨by omega, by omega, by omega⟩ dX11_lotBelow_39 ?_
    have b14 := pm_modb (x := (y8 / 256)) (y := a1) (by omega) (by omega)
    generalize ((y8 / 256) % a1) = y13 at b14 ⊢
    refine pm_l2i hC dX11_lotBelow_40 ?_
    exact pm_iret hC hR pm_nar0 ⟨y13, rfl, ⟨by omega, by omega, by omega, by omega, by omega⟩, (hV0.put 0 16 (x := y8) (lo := (-9223372036854775808)) (hi := 9223372036854775807) rfl ⟨by omega, by omega⟩), ((pm_fr.rf (ws := [0]) (V := V0)).up 0 16 y8 rfl)⟩ dX11_lotBelow_41
  · skip
    refine pm_iconst (v := 0) hC dX11_lotBelow_26 ?_
    refine pm_goto (tgt := 41) hC dX11_lotBelow_27 (by decide) ?_
    exact pm_iret hC hR pm_nar0 ⟨0, rfl, ⟨by omega, by omega, by omega, by omega, by omega⟩, (hV0.put 0 16 (x := y8) (lo := (-9223372036854775808)) (hi := 9223372036854775807) rfl ⟨by omega, by omega⟩), ((pm_fr.rf (ws := [0]) (V := V0)).up 0 16 y8 rfl)⟩ dX11_lotBelow_41
set_option maxHeartbeats 4000000 in
set_option maxRecDepth 100000 in
theorem c_X10_saidAt_73 (a1 : Int) (h0 : (-9223372036854775808) ≤ a1 ∧ a1 ≤ 9223372036854775807) : pm_K 1 yX10_saidAt cX10_saidAt 6 (some .int) (fun av V => av = [(3, 73), (1, a1)] ∧ pm_ok 0 90 V) (fun _ V r V' => ∃ y, r = some (0, y) ∧ (0 ≤ y ∧ y ≤ 8) ∧ V = V') := by
  refine pm_MT.of (by decide) ⟨Nat.le_refl _, by decide⟩ (fun av V h => by rw [h.1]; exact (by decide : pm_words [(3, 0), (1, 0)] ≤ 6)) ?_
  rintro X av V0 hC - hR ⟨rfl, hV0⟩
  change pm_J X 0 [(0, (3, 73)), (1, (1, a1))] [] 118 V0
  refine pm_lconst (x := 0) hC dX10_saidAt_0 rfl ?_
  refine pm_lstore_n (lv' := [(3, (1, 0)), (0, (3, 73)), (1, (1, a1))]) hC dX10_saidAt_1 (by decide) rfl ?_
  refine pm_iconst (v := 0) hC dX10_saidAt_2 ?_
  refine pm_istore (lv' := [(5, (0, 0)), (3, (1, 0)), (0, (3, 73)), (1, (1, a1))]) hC dX10_saidAt_3 (by decide) rfl ?_
  have L5 : ∀ (N7 : Nat) (x1 : Int) (x3 : Int), ((-9223372036854775808) ≤ x1 ∧ x1 ≤ 9223372036854775807) → (0 ≤ x3 ∧ x3 ≤ 9) → (Int.toNat (9 - x3)) = N7 → pm_J X 5 [(0, (3, 73)), (1, (1, a1)), (3, (1, x1)), (5, (0, x3))] [] 118 V0 := by
    intro N7
    induction N7 using Nat.strongRecOn with
    | _ N7 ih8 =>
    intro x1 x3 b2 b4 hm6
    refine pm_iload hC 3 dX10_saidAt_5 rfl ?_
    refine pm_aload_n hC 0 (by decide) dX10_saidAt_7 rfl ?_
    rcases hV0.get2 73 0 (lo := 45) (hi := 51) (by decide) (by decide) rfl with e9 | e9
    · skip
      refine pm_getf (v := 45) hC 73 fl_X10_59 rfl rfl (by decide) rfl e9 dX10_saidAt_8 ?_
      obtain ⟨y10, e11⟩ : ∃ y, V0 45 0 = y := ⟨_, rfl⟩
      have b12 := hV0.get 45 0 (lo := 0) (hi := 9) (by decide) (by decide) rfl
      rw [e11] at b12
      refine pm_getf (v := y10) hC 45 fl_X10_79 rfl rfl (by decide) rfl e11 dX10_saidAt_11 ?_
      refine pm_icmp_ge (tgt := 42) hC ⟨by omega, by omega⟩ ⟨by omega, by omega⟩ dX10_saidAt_14 (by decide) (fun c13 => ?_) (fun c13 => ?_)
      · skip
        refine pm_iconst (v := 0) hC dX10_saidAt_42 ?_
        exact pm_iret hC hR pm_nar0 ⟨0, rfl, ⟨by omega, by omega⟩, rfl⟩ dX10_saidAt_43
      · skip
        refine pm_lload_n hC 2 dX10_saidAt_17 rfl ?_
        refine pm_aload_n hC 0 (by decide) dX10_saidAt_18 rfl ?_
        rcases hV0.get2 73 13 (lo := 76) (hi := 77) (by decide) (by decide) rfl with e14 | e14
        · skip
          refine pm_getf (v := 76) hC 73 fl_X10_50 rfl rfl (by decide) rfl e14 dX10_saidAt_19 ?_
          refine pm_iload hC 3 dX10_saidAt_22 rfl ?_
          obtain ⟨y15, e16⟩ : ∃ y, V0 76 (x3 : Int).toNat = y := ⟨_, rfl⟩
          have b17 := hV0.get 76 (x3 : Int).toNat (lo := (-9223372036854775808)) (hi := 9223372036854775807) (by decide) (show _ < 9 by omega) rfl
          rw [e16] at b17
          refine pm_laload (len := 9) (v := y15) hC 76 rfl rfl (by decide) ⟨by omega, by omega⟩ (by decide) e16 dX10_saidAt_24 ?_
          refine pm_ladd hC dX10_saidAt_25 ?_
          refine pm_someL hC (fun y18 b19 => ?_)
          have b19 := And.intro b19.1 b19.2
          refine pm_lstore_n (lv' := [(3, (1, y18)), (0, (3, 73)), (1, (1, a1)), (5, (0, x3))]) hC dX10_saidAt_26 (by decide) rfl ?_
          refine pm_lload_n hC 0 dX10_saidAt_27 rfl ?_
          refine pm_lload_n hC 2 dX10_saidAt_28 rfl ?_
          refine pm_lcmp hC ⟨by omega, by omega⟩ ⟨by omega, by omega⟩ dX10_saidAt_29 (fun y20 b21 => ?_)
          refine pm_if_le (tgt := 36) hC ⟨by omega, by omega⟩ dX10_saidAt_30 (by decide) (fun c22 => ?_) (fun c22 => ?_)
          · skip
            obtain ⟨x23, ei24⟩ : ∃ y : Int, x3 + 1 = y := ⟨_, rfl⟩
            refine pm_iinc (y := x23) (lv' := [(5, (0, x23)), (3, (1, y18)), (0, (3, 73)), (1, (1, a1))]) hC 3 dX10_saidAt_36 (by decide) rfl ei24 rfl ?_
            refine pm_goto (tgt := 5) hC dX10_saidAt_39 (by decide) ?_
            refine pm_lvsub [2, 3, 1, 0] (lv' := [(0, (3, 73)), (1, (1, a1)), (3, (1, y18)), (5, (0, x23))]) rfl ?_
            exact ih8 _ (by omega) y18 x23 ⟨by omega, by omega⟩ ⟨by omega, by omega⟩ rfl
          · skip
            refine pm_iload hC 3 dX10_saidAt_33 rfl ?_
            exact pm_iret hC hR pm_nar0 ⟨x3, rfl, ⟨by omega, by omega⟩, rfl⟩ dX10_saidAt_35
        · skip
          refine pm_getf (v := 77) hC 73 fl_X10_50 rfl rfl (by decide) rfl e14 dX10_saidAt_19 ?_
          refine pm_iload hC 3 dX10_saidAt_22 rfl ?_
          obtain ⟨y25, e26⟩ : ∃ y, V0 77 (x3 : Int).toNat = y := ⟨_, rfl⟩
          have b27 := hV0.get 77 (x3 : Int).toNat (lo := (-9223372036854775808)) (hi := 9223372036854775807) (by decide) (show _ < 9 by omega) rfl
          rw [e26] at b27
          refine pm_laload (len := 9) (v := y25) hC 77 rfl rfl (by decide) ⟨by omega, by omega⟩ (by decide) e26 dX10_saidAt_24 ?_
          refine pm_ladd hC dX10_saidAt_25 ?_
          refine pm_someL hC (fun y28 b29 => ?_)
          have b29 := And.intro b29.1 b29.2
          refine pm_lstore_n (lv' := [(3, (1, y28)), (0, (3, 73)), (1, (1, a1)), (5, (0, x3))]) hC dX10_saidAt_26 (by decide) rfl ?_
          refine pm_lload_n hC 0 dX10_saidAt_27 rfl ?_
          refine pm_lload_n hC 2 dX10_saidAt_28 rfl ?_
          refine pm_lcmp hC ⟨by omega, by omega⟩ ⟨by omega, by omega⟩ dX10_saidAt_29 (fun y30 b31 => ?_)
          refine pm_if_le (tgt := 36) hC ⟨by omega, by omega⟩ dX10_saidAt_30 (by decide) (fun c32 => ?_) (fun c32 => ?_)
          · skip
            obtain ⟨x33, ei34⟩ : ∃ y : Int, x3 + 1 = y := ⟨_, rfl⟩
            refine pm_iinc (y := x33) (lv' := [(5, (0, x33)), (3, (1, y28)), (0, (3, 73)), (1, (1, a1))]) hC 3 dX10_saidAt_36 (by decide) rfl ei34 rfl ?_
            refine pm_goto (tgt := 5) hC dX10_saidAt_39 (by decide) ?_
            refine pm_lvsub [2, 3, 1, 0] (lv' := [(0, (3, 73)), (1, (1, a1)), (3, (1, y28)), (5, (0, x33))]) rfl ?_
            exact ih8 _ (by omega) y28 x33 ⟨by omega, by omega⟩ ⟨by omega, by omega⟩ rfl
          · skip
            refine pm_iload hC 3 dX10_saidAt_33 rfl ?_
            exact pm_iret hC hR pm_nar0 ⟨x3, rfl, ⟨by omega, by omega⟩, rfl⟩ dX10_saidAt_35
    · skip
      refine pm_getf (v := 51) hC 73 fl_X10_59 rfl rfl (by decide) rfl e9 dX10_saidAt_8 ?_
      obtain ⟨y35, e36⟩ : ∃ y, V0 51 0 = y := ⟨_, rfl⟩
      have b37 := hV0.get 51 0 (lo := 0) (hi := 9) (by decide) (by decide) rfl
      rw [e36] at b37
      refine pm_getf (v := y35) hC 51 fl_X10_79 rfl rfl (by decide) rfl e36 dX10_saidAt_11 ?_
      refine pm_icmp_ge (tgt := 42) hC ⟨by omega, by omega⟩ ⟨by omega, by omega⟩ dX10_saidAt_14 (by decide) (fun c38 => ?_) (fun c38 => ?_)
      · skip
        refine pm_iconst (v := 0) hC dX10_saidAt_42 ?_
        exact pm_iret hC hR pm_nar0 ⟨0, rfl, ⟨by omega, by omega⟩, rfl⟩ dX10_saidAt_43
      · skip
        refine pm_lload_n hC 2 dX10_saidAt_17 rfl ?_
        refine pm_aload_n hC 0 (by decide) dX10_saidAt_18 rfl ?_
        rcases hV0.get2 73 13 (lo := 76) (hi := 77) (by decide) (by decide) rfl with e39 | e39
        · skip
          refine pm_getf (v := 76) hC 73 fl_X10_50 rfl rfl (by decide) rfl e39 dX10_saidAt_19 ?_
          refine pm_iload hC 3 dX10_saidAt_22 rfl ?_
          obtain ⟨y40, e41⟩ : ∃ y, V0 76 (x3 : Int).toNat = y := ⟨_, rfl⟩
          have b42 := hV0.get 76 (x3 : Int).toNat (lo := (-9223372036854775808)) (hi := 9223372036854775807) (by decide) (show _ < 9 by omega) rfl
          rw [e41] at b42
          refine pm_laload (len := 9) (v := y40) hC 76 rfl rfl (by decide) ⟨by omega, by omega⟩ (by decide) e41 dX10_saidAt_24 ?_
          refine pm_ladd hC dX10_saidAt_25 ?_
          refine pm_someL hC (fun y43 b44 => ?_)
          have b44 := And.intro b44.1 b44.2
          refine pm_lstore_n (lv' := [(3, (1, y43)), (0, (3, 73)), (1, (1, a1)), (5, (0, x3))]) hC dX10_saidAt_26 (by decide) rfl ?_
          refine pm_lload_n hC 0 dX10_saidAt_27 rfl ?_
          refine pm_lload_n hC 2 dX10_saidAt_28 rfl ?_
          refine pm_lcmp hC ⟨by omega, by omega⟩ ⟨by omega, by omega⟩ dX10_saidAt_29 (fun y45 b46 => ?_)
          refine pm_if_le (tgt := 36) hC ⟨by omega, by omega⟩ dX10_saidAt_30 (by decide) (fun c47 => ?_) (fun c47 => ?_)
          · skip
            obtain ⟨x48, ei49⟩ : ∃ y : Int, x3 + 1 = y := ⟨_, rfl⟩
            refine pm_iinc (y := x48) (lv' := [(5, (0, x48)), (3, (1, y43)), (0, (3, 73)), (1, (1, a1))]) hC 3 dX10_saidAt_36 (by decide) rfl ei49 rfl ?_
            refine pm_goto (tgt := 5) hC dX10_saidAt_39 (by decide) ?_
            refine pm_lvsub [2, 3, 1, 0] (lv' := [(0, (3, 73)), (1, (1, a1)), (3, (1, y43)), (5, (0, x48))]) rfl ?_
            exact ih8 _ (by omega) y43 x48 ⟨by omega, by omega⟩ ⟨by omega, by omega⟩ rfl
          · skip
            refine pm_iload hC 3 dX10_saidAt_33 rfl ?_
            exact pm_iret hC hR pm_nar0 ⟨x3, rfl, ⟨by omega, by omega⟩, rfl⟩ dX10_saidAt_35
        · skip
          refine pm_getf (v := 77) hC 73 fl_X10_50 rfl rfl (by decide) rfl e39 dX10_saidAt_19 ?_
          refine pm_iload hC 3 dX10_saidAt_22 rfl ?_
          obtain ⟨y50, e51⟩ : ∃ y, V0 77 (x3 : Int).toNat = y := ⟨_, rfl⟩
          have b52 := hV0.get 77 (x3 : Int).toNat (lo := (-9223372036854775808)) (hi := 9223372036854775807) (by decide) (show _ < 9 by omega) rfl
          rw [e51] at b52
          refine pm_laload (len := 9) (v := y50) hC 77 rfl rfl (by decide) ⟨by omega, by omega⟩ (by decide) e51 dX10_saidAt_24 ?_
          refine pm_ladd hC dX10_saidAt_25 ?_
          refine pm_someL hC (fun y53 b54 => ?_)
          have b54 := And.intro b54.1 b54.2
          refine pm_lstore_n (lv' := [(3, (1, y53)), (0, (3, 73)), (1, (1, a1)), (5, (0, x3))]) hC dX10_saidAt_26 (by decide) rfl ?_
          refine pm_lload_n hC 0 dX10_saidAt_27 rfl ?_
          refine pm_lload_n hC 2 dX10_saidAt_28 rfl ?_
          refine pm_lcmp hC ⟨by omega, by omega⟩ ⟨by omega, by omega⟩ dX10_saidAt_29 (fun y55 b56 => ?_)
          refine pm_if_le (tgt := 36) hC ⟨by omega, by omega⟩ dX10_saidAt_30 (by decide) (fun c57 => ?_) (fun c57 => ?_)
          · skip
            obtain ⟨x58, ei59⟩ : ∃ y : Int, x3 + 1 = y := ⟨_, rfl⟩
            refine pm_iinc (y := x58) (lv' := [(5, (0, x58)), (3, (1, y53)), (0, (3, 73)), (1, (1, a1))]) hC 3 dX10_saidAt_36 (by decide) rfl ei59 rfl ?_
            refine pm_goto (tgt := 5) hC dX10_saidAt_39 (by decide) ?_
            refine pm_lvsub [2, 3, 1, 0] (lv' := [(0, (3, 73)), (1, (1, a1)), (3, (1, y53)), (5, (0, x58))]) rfl ?_
            exact ih8 _ (by omega) y53 x58 ⟨by omega, by omega⟩ ⟨by omega, by omega⟩ rfl
          · skip
            refine pm_iload hC 3 dX10_saidAt_33 rfl ?_
            exact pm_iret hC hR pm_nar0 ⟨x3, rfl, ⟨by omega, by omega⟩, rfl⟩ dX10_saidAt_35
  refine pm_lvsub [2, 3, 1, 0] (lv' := [(0, (3, 73)), (1, (1, a1)), (3, (1, 0)), (5, (0, 0))]) rfl ?_
  exact L5 _ 0 0 ⟨by decide, by decide⟩ ⟨by decide, by decide⟩ rfl
theorem pm_dig3 {p v f : Int} (hp : 0 ≤ p ∧ p ≤ 9) (hv : 0 ≤ v ∧ v ≤ 8) (hf : 0 ≤ f ∧ f ≤ 8) : 0 ≤ (((p * 100) + (v * 10)) + f) ∧ (((p * 100) + (v * 10)) + f) ≤ 999 ∧ (((p * 100) + (v * 10)) + f) % 10 ≤ 8 ∧ (((p * 100) + (v * 10)) + f) / 10 % 10 ≤ 8 := by
  have e1 : (((p * 100) + (v * 10)) + f) % 10 = f := by omega
  have e2 : (((p * 100) + (v * 10)) + f) / 10 = p * 10 + v := by omega
  rw [e1, e2]
  omega
set_option maxHeartbeats 4000000 in
set_option maxRecDepth 100000 in
theorem c_X11_drawAnswer_0 (a1 a2 : Int) (h0 : (-2147483648) ≤ a1 ∧ a1 ≤ 2147483647) (h1 : 0 ≤ a2 ∧ a2 ≤ 9) : pm_K 5 yX11_drawAnswer cX11_drawAnswer 12 none (fun av V => av = [(3, 0), (0, a1), (0, a2)] ∧ pm_ok 0 90 V) (fun _ V r V' => r = none ∧ pm_ok 0 90 V' ∧ pm_fr [0, 4, 9, 10, 11, 12, 13, 73, 74, 75, 76, 77] V V') := by
  refine pm_MT.of (by decide) ⟨Nat.le_refl _, by decide⟩ (fun av V h => by rw [h.1]; exact (by decide : pm_words [(3, 0), (0, 0), (0, 0)] ≤ 12)) ?_
  rintro X av V0 hC - hR ⟨rfl, hV0⟩
  change pm_J X 0 [(0, (3, 0)), (1, (0, a1)), (2, (0, a2))] [] 118 V0
  refine pm_aload_n hC 0 (by decide) dX11_drawAnswer_0 rfl ?_
  refine pm_aload_n hC 0 (by decide) dX11_drawAnswer_1 rfl ?_
  rcases hV0.get2 0 8 (lo := 45) (hi := 51) (by decide) (by decide) rfl with e1 | e1
  · skip
    refine pm_getf (v := 45) hC 0 fl_X11_35 rfl rfl (by decide) rfl e1 dX11_drawAnswer_2 ?_
    obtain ⟨y2, e3⟩ : ∃ y, V0 45 0 = y := ⟨_, rfl⟩
    have b4 := hV0.get 45 0 (lo := 0) (hi := 9) (by decide) (by decide) rfl
    rw [e3] at b4
    refine pm_getf (v := y2) hC 45 fl_X11_136 rfl rfl (by decide) rfl e3 dX11_drawAnswer_5 ?_
    refine pm_i2l hC ⟨by omega, by omega⟩ dX11_drawAnswer_8 ?_
    refine pm_callV (ci := 11) (as := [(1, y2)]) (st := []) hC 0 (c_X11_lotBelow_0 y2 ⟨by omega, by omega⟩) lm_X11_392 li_X11_lotBelow (by decide) (by decide) rfl rfl rfl (by decide) rfl rfl (Nat.le_of_ble_eq_true rfl) ⟨Nat.le_refl _, Or.inl rfl⟩ dX11_drawAnswer_9 ⟨rfl, hV0⟩ (fun r5 V6 hp7 => ?_)
    obtain ⟨y8, rfl, b9, hV10, hF11⟩ := hp7
    change pm_J X 12 [(0, (3, 0)), (1, (0, a1)), (2, (0, a2))] [(0, y8)] 118 V6
    have hF12 := pm_fr.tr (pm_fr.rf (ws := [0, 4, 9, 10, 11, 12, 13, 73, 74, 75, 76, 77]) (V := V0)) hF11 (by decide)
    have e13 : V6 45 0 = y2 := by rw [hF11 45 (by decide)]; exact e3
    refine pm_istore_n (lv' := [(3, (0, y8)), (0, (3, 0)), (1, (0, a1)), (2, (0, a2))]) hC dX11_drawAnswer_12 (by decide) rfl ?_
    refine pm_aload_n hC 1 (by decide) dX11_drawAnswer_13 rfl ?_
    refine pm_aload_n hC 1 (by decide) dX11_drawAnswer_14 rfl ?_
    rcases hV10.get2 0 8 (lo := 45) (hi := 51) (by decide) (by decide) rfl with e14 | e14
    · skip
      refine pm_getf (v := 45) hC 0 fl_X11_35 rfl rfl (by decide) rfl e14 dX11_drawAnswer_15 ?_
      refine pm_getf (v := y2) hC 45 fl_X11_136 rfl rfl (by decide) rfl e13 dX11_drawAnswer_18 ?_
      refine pm_i2l hC ⟨by omega, by omega⟩ dX11_drawAnswer_21 ?_
      refine pm_callV (ci := 11) (as := [(1, y2)]) (st := []) hC 0 (c_X11_lotBelow_0 y2 ⟨by omega, by omega⟩) lm_X11_392 li_X11_lotBelow (by decide) (by decide) rfl rfl rfl (by decide) rfl rfl (Nat.le_of_ble_eq_true rfl) ⟨Nat.le_refl _, Or.inl rfl⟩ dX11_drawAnswer_22 ⟨rfl, hV10⟩ (fun r15 V16 hp17 => ?_)
      obtain ⟨y18, rfl, b19, hV20, hF21⟩ := hp17
      change pm_J X 25 [(3, (0, y8)), (0, (3, 0)), (1, (0, a1)), (2, (0, a2))] [(0, y18)] 118 V16
      have hF22 := pm_fr.tr hF12 hF21 (by decide)
      have e23 : V16 45 0 = y2 := by rw [hF21 45 (by decide)]; exact e13
      refine pm_istore (lv' := [(4, (0, y18)), (3, (0, y8)), (0, (3, 0)), (1, (0, a1)), (2, (0, a2))]) hC dX11_drawAnswer_25 (by decide) rfl ?_
      refine pm_aload_n hC 2 (by decide) dX11_drawAnswer_27 rfl ?_
      refine pm_ldc2 (v := 10) hC 5097 dX11_drawAnswer_28 (by decide +kernel) ?_
      refine pm_callV (ci := 11) (as := [(1, 10)]) (st := []) hC 0 (c_X11_lotBelow_0 10 ⟨by decide, by decide⟩) lm_X11_392 li_X11_lotBelow (by decide) (by decide) rfl rfl rfl (by decide) rfl rfl (Nat.le_of_ble_eq_true rfl) ⟨Nat.le_refl _, Or.inl rfl⟩ dX11_drawAnswer_31 ⟨rfl, hV20⟩ (fun r24 V25 hp26 => ?_)
      obtain ⟨y27, rfl, b28, hV29, hF30⟩ := hp26
      change pm_J X 34 [(4, (0, y18)), (3, (0, y8)), (0, (3, 0)), (1, (0, a1)), (2, (0, a2))] [(0, y27)] 118 V25
      have hF31 := pm_fr.tr hF22 hF30 (by decide)
      have e32 : V25 45 0 = y2 := by rw [hF30 45 (by decide)]; exact e23
      refine pm_istore (lv' := [(5, (0, y27)), (4, (0, y18)), (3, (0, y8)), (0, (3, 0)), (1, (0, a1)), (2, (0, a2))]) hC dX11_drawAnswer_34 (by decide) rfl ?_
      refine pm_aload_n hC 3 (by decide) dX11_drawAnswer_36 rfl ?_
      refine pm_ldc2 (v := 10) hC 5097 dX11_drawAnswer_37 (by decide +kernel) ?_
      refine pm_callV (ci := 11) (as := [(1, 10)]) (st := []) hC 0 (c_X11_lotBelow_0 10 ⟨by decide, by decide⟩) lm_X11_392 li_X11_lotBelow (by decide) (by decide) rfl rfl rfl (by decide) rfl rfl (Nat.le_of_ble_eq_true rfl) ⟨Nat.le_refl _, Or.inl rfl⟩ dX11_drawAnswer_40 ⟨rfl, hV29⟩ (fun r33 V34 hp35 => ?_)
      obtain ⟨y36, rfl, b37, hV38, hF39⟩ := hp35
      change pm_J X 43 [(5, (0, y27)), (4, (0, y18)), (3, (0, y8)), (0, (3, 0)), (1, (0, a1)), (2, (0, a2))] [(0, y36)] 118 V34
      have hF40 := pm_fr.tr hF31 hF39 (by decide)
      have e41 : V34 45 0 = y2 := by rw [hF39 45 (by decide)]; exact e32
      refine pm_istore (lv' := [(6, (0, y36)), (5, (0, y27)), (4, (0, y18)), (3, (0, y8)), (0, (3, 0)), (1, (0, a1)), (2, (0, a2))]) hC dX11_drawAnswer_43 (by decide) rfl ?_
      refine pm_aload_n hC 4 (by decide) dX11_drawAnswer_45 rfl ?_
      refine pm_ldc2 (v := 199) hC 5098 dX11_drawAnswer_46 (by decide +kernel) ?_
      refine pm_callV (ci := 11) (as := [(1, 199)]) (st := []) hC 0 (c_X11_lotBelow_0 199 ⟨by decide, by decide⟩) lm_X11_392 li_X11_lotBelow (by decide) (by decide) rfl rfl rfl (by decide) rfl rfl (Nat.le_of_ble_eq_true rfl) ⟨Nat.le_refl _, Or.inl rfl⟩ dX11_drawAnswer_49 ⟨rfl, hV38⟩ (fun r42 V43 hp44 => ?_)
      obtain ⟨y45, rfl, b46, hV47, hF48⟩ := hp44
      change pm_J X 52 [(6, (0, y36)), (5, (0, y27)), (4, (0, y18)), (3, (0, y8)), (0, (3, 0)), (1, (0, a1)), (2, (0, a2))] [(0, y45)] 118 V43
      have hF49 := pm_fr.tr hF40 hF48 (by decide)
      have e50 : V43 45 0 = y2 := by rw [hF48 45 (by decide)]; exact e41
      refine pm_bipush (v := 99) hC dX11_drawAnswer_52 (by decide) ?_
      refine pm_isub hC dX11_drawAnswer_54 ?_
      refine pm_istore (lv' := [(7, (0, (y45 - 99))), (6, (0, y36)), (5, (0, y27)), (4, (0, y18)), (3, (0, y8)), (0, (3, 0)), (1, (0, a1)), (2, (0, a2))]) hC dX11_drawAnswer_55 (by decide) rfl ?_
      refine pm_iload_n hC 7 dX11_drawAnswer_57 rfl ?_
      refine pm_bipush (v := 100) hC dX11_drawAnswer_58 (by decide) ?_
      refine pm_imul hC dX11_drawAnswer_60 ?_
      refine pm_iload_n hC 4 dX11_drawAnswer_61 rfl ?_
      refine pm_bipush (v := 10) hC dX11_drawAnswer_62 (by decide) ?_
      refine pm_imul hC dX11_drawAnswer_64 ?_
      refine pm_iadd hC dX11_drawAnswer_65 ?_
      refine pm_iload hC 3 dX11_drawAnswer_66 rfl ?_
      refine pm_iadd hC dX11_drawAnswer_68 ?_
      have hw52 := pm_dig3 (p := a2) (v := y8) (f := y18) ⟨by omega, by omega⟩ ⟨by omega, by omega⟩ ⟨by omega, by omega⟩
      generalize (((a2 * 100) + (y8 * 10)) + y18) = w51 at hw52 ⊢
      refine pm_istore (lv' := [(8, (0, w51)), (7, (0, (y45 - 99))), (6, (0, y36)), (5, (0, y27)), (4, (0, y18)), (3, (0, y8)), (0, (3, 0)), (1, (0, a1)), (2, (0, a2))]) hC dX11_drawAnswer_69 (by decide) rfl ?_
      refine pm_iload hC 3 dX11_drawAnswer_71 rfl ?_
      refine pm_bipush (v := 10) hC dX11_drawAnswer_73 (by decide) ?_
      refine pm_imul hC dX11_drawAnswer_75 ?_
      refine pm_iload hC 2 dX11_drawAnswer_76 rfl ?_
      refine pm_iadd hC dX11_drawAnswer_78 ?_
      refine pm_istore (lv' := [(9, (0, ((y27 * 10) + y36))), (8, (0, w51)), (7, (0, (y45 - 99))), (6, (0, y36)), (5, (0, y27)), (4, (0, y18)), (3, (0, y8)), (0, (3, 0)), (1, (0, a1)), (2, (0, a2))]) hC dX11_drawAnswer_79 (by decide) rfl ?_
      refine pm_aload_n hC 7 (by decide) dX11_drawAnswer_81 rfl ?_
      refine pm_iload hC 1 dX11_drawAnswer_82 rfl ?_
      refine pm_iload hC 0 dX11_drawAnswer_84 rfl ?_
      refine pm_iload hC 2 dX11_drawAnswer_86 rfl ?_
      refine pm_callV (ci := 11) (as := [(0, w51), (0, ((y27 * 10) + y36)), (0, (y45 - 99))]) (st := []) hC 0 (c_X11_pose_0 w51 ((y27 * 10) + y36) (y45 - 99) ⟨by omega, by omega⟩ ⟨by omega, by omega⟩ ⟨by omega, by omega⟩ (by omega)) lm_X11_229 li_X11_pose (by decide) (by decide) rfl rfl rfl (by decide) rfl rfl (Nat.le_of_ble_eq_true rfl) ⟨Nat.le_refl _, Or.inl rfl⟩ dX11_drawAnswer_88 ⟨rfl, hV47⟩ (fun r53 V54 hp55 => ?_)
      obtain ⟨rfl, hV56, hF57⟩ := hp55
      change pm_J X 91 [(9, (0, ((y27 * 10) + y36))), (8, (0, w51)), (7, (0, (y45 - 99))), (6, (0, y36)), (5, (0, y27)), (4, (0, y18)), (3, (0, y8)), (0, (3, 0)), (1, (0, a1)), (2, (0, a2))] [] 118 V54
      have hF58 := pm_fr.tr hF49 hF57 (by decide)
      have e59 : V54 45 0 = y2 := by rw [hF57 45 (by decide)]; exact e50
      refine pm_aload_n hC 7 (by decide) dX11_drawAnswer_91 rfl ?_
      have e60 : V54 0 5 = 73 := hV56.one 0 5 (by decide) (by decide) rfl
      refine pm_getf (v := 73) hC 0 fl_X11_75 rfl rfl (by decide) rfl e60 dX11_drawAnswer_92 ?_
      refine pm_iload_n hC 8 dX11_drawAnswer_95 rfl ?_
      refine pm_callV (ci := 10) (as := [(0, a1)]) (st := []) hC 73 (c_X10_weigh_73 a1 ⟨by omega, by omega⟩) lm_X11_294 li_X10_weigh (by decide) (by decide) rfl rfl rfl (by decide) rfl rfl (Nat.le_of_ble_eq_true rfl) ⟨Nat.le_refl _, Or.inl rfl⟩ dX11_drawAnswer_96 ⟨rfl, hV56⟩ (fun r61 V62 hp63 => ?_)
      obtain ⟨rfl, hV64, hF65⟩ := hp63
      change pm_J X 99 [(9, (0, ((y27 * 10) + y36))), (8, (0, w51)), (7, (0, (y45 - 99))), (6, (0, y36)), (5, (0, y27)), (4, (0, y18)), (3, (0, y8)), (0, (3, 0)), (1, (0, a1)), (2, (0, a2))] [] 118 V62
      have hF66 := pm_fr.tr hF58 hF65 (by decide)
      have e67 : V62 45 0 = y2 := by rw [hF65 45 (by decide)]; exact e59
      have e68 : V62 0 5 = 73 := by rw [hF65 0 (by decide)]; exact e60
      refine pm_aload_n hC 7 (by decide) dX11_drawAnswer_99 rfl ?_
      refine pm_getf (v := 73) hC 0 fl_X11_75 rfl rfl (by decide) rfl e68 dX11_drawAnswer_100 ?_
      refine pm_aload_n hC 7 (by decide) dX11_drawAnswer_103 rfl ?_
      refine pm_aload_n hC 7 (by decide) dX11_drawAnswer_104 rfl ?_
      refine pm_getf (v := 73) hC 0 fl_X11_75 rfl rfl (by decide) rfl e68 dX11_drawAnswer_105 ?_
      obtain ⟨y69, e70⟩ : ∃ y, V62 73 14 = y := ⟨_, rfl⟩
      have b71 := hV64.get 73 14 (lo := (-9223372036854775808)) (hi := 9223372036854775807) (by decide) (by decide) rfl
      rw [e70] at b71
      refine pm_getf (v := y69) hC 73 fl_X11_205 rfl rfl (by decide) rfl e70 dX11_drawAnswer_108 ?_
      refine pm_callV (ci := 11) (as := [(1, y69)]) (st := [(3, 73)]) hC 0 (c_X11_lotBelow_0 y69 ⟨by omega, by omega⟩) lm_X11_392 li_X11_lotBelow (by decide) (by decide) rfl rfl rfl (by decide) rfl rfl (Nat.le_of_ble_eq_true rfl) ⟨Nat.le_refl _, Or.inl rfl⟩ dX11_drawAnswer_111 ⟨rfl, hV64⟩ (fun r72 V73 hp74 => ?_)
      obtain ⟨y75, rfl, b76, hV77, hF78⟩ := hp74
      change pm_J X 114 [(9, (0, ((y27 * 10) + y36))), (8, (0, w51)), (7, (0, (y45 - 99))), (6, (0, y36)), (5, (0, y27)), (4, (0, y18)), (3, (0, y8)), (0, (3, 0)), (1, (0, a1)), (2, (0, a2))] [(0, y75), (3, 73)] 118 V73
      have hF79 := pm_fr.tr hF66 hF78 (by decide)
      have e80 : V73 45 0 = y2 := by rw [hF78 45 (by decide)]; exact e67
      have e81 : V73 73 14 = y69 := by rw [hF78 73 (by decide)]; exact e70
      refine pm_i2l hC ⟨by omega, by omega⟩ dX11_drawAnswer_114 ?_
      refine pm_callV (ci := 10) (as := [(1, y75)]) (st := []) hC 73 (c_X10_saidAt_73 y75 ⟨by omega, by omega⟩) lm_X11_400 li_X10_saidAt (by decide) (by decide) rfl rfl rfl (by decide) rfl rfl (Nat.le_of_ble_eq_true rfl) ⟨Nat.le_refl _, Or.inl rfl⟩ dX11_drawAnswer_115 ⟨rfl, hV77⟩ (fun r82 V83 hp84 => ?_)
      obtain ⟨y85, rfl, b86, rfl⟩ := hp84
      change pm_J X 118 [(9, (0, ((y27 * 10) + y36))), (8, (0, w51)), (7, (0, (y45 - 99))), (6, (0, y36)), (5, (0, y27)), (4, (0, y18)), (3, (0, y8)), (0, (3, 0)), (1, (0, a1)), (2, (0, a2))] [(0, y85)] 118 V73
      refine pm_istore (lv' := [(10, (0, y85)), (9, (0, ((y27 * 10) + y36))), (8, (0, w51)), (7, (0, (y45 - 99))), (6, (0, y36)), (5, (0, y27)), (4, (0, y18)), (3, (0, y8)), (0, (3, 0)), (1, (0, a1)), (2, (0, a2))]) hC dX11_drawAnswer_118 (by decide) rfl ?_
      refine pm_aload_n hC 8 (by decide) dX11_drawAnswer_120 rfl ?_
      refine pm_ldc2 (v := 1000) hC 4082 dX11_drawAnswer_121 (by decide +kernel) ?_
      refine pm_callV (ci := 11) (as := [(1, 1000)]) (st := []) hC 0 (c_X11_lotBelow_0 1000 ⟨by decide, by decide⟩) lm_X11_392 li_X11_lotBelow (by decide) (by decide) rfl rfl rfl (by decide) rfl rfl (Nat.le_of_ble_eq_true rfl) ⟨Nat.le_refl _, Or.inl rfl⟩ dX11_drawAnswer_124 ⟨rfl, hV77⟩ (fun r87 V88 hp89 => ?_)
      obtain ⟨y90, rfl, b91, hV92, hF93⟩ := hp89
      change pm_J X 127 [(10, (0, y85)), (9, (0, ((y27 * 10) + y36))), (8, (0, w51)), (7, (0, (y45 - 99))), (6, (0, y36)), (5, (0, y27)), (4, (0, y18)), (3, (0, y8)), (0, (3, 0)), (1, (0, a1)), (2, (0, a2))] [(0, y90)] 118 V88
      have hF94 := pm_fr.tr hF79 hF93 (by decide)
      have e95 : V88 45 0 = y2 := by rw [hF93 45 (by decide)]; exact e80
      have e96 : V88 73 14 = y69 := by rw [hF93 73 (by decide)]; exact e81
      refine pm_aload_n hC 8 (by decide) dX11_drawAnswer_127 rfl ?_
      have e97 : V88 0 5 = 73 := hV92.one 0 5 (by decide) (by decide) rfl
      refine pm_getf (v := 73) hC 0 fl_X11_75 rfl rfl (by decide) rfl e97 dX11_drawAnswer_128 ?_
      refine pm_callV (ci := 10) (as := []) (st := [(0, y90)]) hC 73 c_X10_chanceNoticed_73 lm_X11_233 li_X10_chanceNoticed (by decide) (by decide) rfl rfl rfl (by decide) rfl rfl (Nat.le_of_ble_eq_true rfl) ⟨Nat.le_refl _, Or.inl rfl⟩ dX11_drawAnswer_131 ⟨rfl, hV92⟩ (fun r98 V99 hp100 => ?_)
      obtain ⟨y101, rfl, b102, rfl⟩ := hp100
      change pm_J X 134 [(10, (0, y85)), (9, (0, ((y27 * 10) + y36))), (8, (0, w51)), (7, (0, (y45 - 99))), (6, (0, y36)), (5, (0, y27)), (4, (0, y18)), (3, (0, y8)), (0, (3, 0)), (1, (0, a1)), (2, (0, a2))] [(0, y101), (0, y90)] 118 V88
      refine pm_icmp_ge (tgt := 141) hC ⟨by omega, by omega⟩ ⟨by omega, by omega⟩ dX11_drawAnswer_134 (by decide) (fun c103 => ?_) (fun c103 => ?_)
      · skip
        refine pm_iconst (v := 0) hC dX11_drawAnswer_141 ?_
        refine pm_istore (lv' := [(11, (0, 0)), (10, (0, y85)), (9, (0, ((y27 * 10) + y36))), (8, (0, w51)), (7, (0, (y45 - 99))), (6, (0, y36)), (5, (0, y27)), (4, (0, y18)), (3, (0, y8)), (0, (3, 0)), (1, (0, a1)), (2, (0, a2))]) hC dX11_drawAnswer_142 (by decide) rfl ?_
        refine pm_aload_n hC 9 (by decide) dX11_drawAnswer_144 rfl ?_
        have e104 : V88 0 3 = 4 := hV92.one 0 3 (by decide) (by decide) rfl
        refine pm_getf (v := 4) hC 0 fl_X11_24 rfl rfl (by decide) rfl e104 dX11_drawAnswer_145 ?_
        refine pm_iload hC 3 dX11_drawAnswer_148 rfl ?_
        refine pm_iload hC 2 dX11_drawAnswer_150 rfl ?_
        refine pm_iload hC 4 dX11_drawAnswer_152 rfl ?_
        refine pm_iload hC 1 dX11_drawAnswer_154 rfl ?_
        refine pm_iload hC 0 dX11_drawAnswer_156 rfl ?_
        refine pm_callV (ci := 7) (as := [(0, w51), (0, ((y27 * 10) + y36)), (0, (y45 - 99)), (0, y85), (0, 0)]) (st := []) hC 4 (c_X7_addAnswer_4 w51 ((y27 * 10) + y36) (y45 - 99) y85 0 ⟨by omega, by omega⟩ ⟨by omega, by omega⟩ ⟨by omega, by omega⟩ ⟨by omega, by omega⟩ ⟨by decide, by decide⟩ (by omega)) lm_X11_236 li_X7_addAnswer (by decide) (by decide) rfl rfl rfl (by decide) rfl rfl (Nat.le_of_ble_eq_true rfl) ⟨Nat.le_refl _, Or.inl rfl⟩ dX11_drawAnswer_158 ⟨rfl, hV92⟩ (fun r105 V106 hp107 => ?_)
        obtain ⟨rfl, hV108, hF109⟩ := hp107
        change pm_J X 161 [(11, (0, 0)), (10, (0, y85)), (9, (0, ((y27 * 10) + y36))), (8, (0, w51)), (7, (0, (y45 - 99))), (6, (0, y36)), (5, (0, y27)), (4, (0, y18)), (3, (0, y8)), (0, (3, 0)), (1, (0, a1)), (2, (0, a2))] [] 118 V106
        have hF110 := pm_fr.tr hF94 hF109 (by decide)
        have e111 : V106 45 0 = y2 := by rw [hF109 45 (by decide)]; exact e95
        have e112 : V106 73 14 = y69 := by rw [hF109 73 (by decide)]; exact e96
        have e113 : V106 0 5 = 73 := by rw [hF109 0 (by decide)]; exact e97
        have e114 : V106 0 3 = 4 := by rw [hF109 0 (by decide)]; exact e104
        exact pm_vret hC hR ⟨rfl, hV108, hF110⟩ dX11_drawAnswer_161
      · skip
        refine pm_iconst (v := 1) hC dX11_drawAnswer_137 ?_
        refine pm_goto (tgt := 142) hC dX11_drawAnswer_138 (by decide) ?_
        refine pm_istore (lv' := [(11, (0, 1)), (10, (0, y85)), (9, (0, ((y27 * 10) + y36))), (8, (0, w51)), (7, (0, (y45 - 99))), (6, (0, y36)), (5, (0, y27)), (4, (0, y18)), (3, (0, y8)), (0, (3, 0)), (1, (0, a1)), (2, (0, a2))]) hC dX11_drawAnswer_142 (by decide) rfl ?_
        refine pm_aload_n hC 9 (by decide) dX11_drawAnswer_144 rfl ?_
        have e115 : V88 0 3 = 4 := hV92.one 0 3 (by decide) (by decide) rfl
        refine pm_getf (v := 4) hC 0 fl_X11_24 rfl rfl (by decide) rfl e115 dX11_drawAnswer_145 ?_
        refine pm_iload hC 3 dX11_drawAnswer_148 rfl ?_
        refine pm_iload hC 2 dX11_drawAnswer_150 rfl ?_
        refine pm_iload hC 4 dX11_drawAnswer_152 rfl ?_
        refine pm_iload hC 1 dX11_drawAnswer_154 rfl ?_
        refine pm_iload hC 0 dX11_drawAnswer_156 rfl ?_
        refine pm_callV (ci := 7) (as := [(0, w51), (0, ((y27 * 10) + y36)), (0, (y45 - 99)), (0, y85), (0, 1)]) (st := []) hC 4 (c_X7_addAnswer_4 w51 ((y27 * 10) + y36) (y45 - 99) y85 1 ⟨by omega, by omega⟩ ⟨by omega, by omega⟩ ⟨by omega, by omega⟩ ⟨by omega, by omega⟩ ⟨by decide, by decide⟩ (by omega)) lm_X11_236 li_X7_addAnswer (by decide) (by decide) rfl rfl rfl (by decide) rfl rfl (Nat.le_of_ble_eq_true rfl) ⟨Nat.le_refl _, Or.inl rfl⟩ dX11_drawAnswer_158 ⟨rfl, hV92⟩ (fun r116 V117 hp118 => ?_)
        obtain ⟨rfl, hV119, hF120⟩ := hp118
        change pm_J X 161 [(11, (0, 1)), (10, (0, y85)), (9, (0, ((y27 * 10) + y36))), (8, (0, w51)), (7, (0, (y45 - 99))), (6, (0, y36)), (5, (0, y27)), (4, (0, y18)), (3, (0, y8)), (0, (3, 0)), (1, (0, a1)), (2, (0, a2))] [] 118 V117
        have hF121 := pm_fr.tr hF94 hF120 (by decide)
        have e122 : V117 45 0 = y2 := by rw [hF120 45 (by decide)]; exact e95
        have e123 : V117 73 14 = y69 := by rw [hF120 73 (by decide)]; exact e96
        have e124 : V117 0 5 = 73 := by rw [hF120 0 (by decide)]; exact e97
        have e125 : V117 0 3 = 4 := by rw [hF120 0 (by decide)]; exact e115
        exact pm_vret hC hR ⟨rfl, hV119, hF121⟩ dX11_drawAnswer_161
    · skip
      refine pm_getf (v := 51) hC 0 fl_X11_35 rfl rfl (by decide) rfl e14 dX11_drawAnswer_15 ?_
      obtain ⟨y126, e127⟩ : ∃ y, V6 51 0 = y := ⟨_, rfl⟩
      have b128 := hV10.get 51 0 (lo := 0) (hi := 9) (by decide) (by decide) rfl
      rw [e127] at b128
      refine pm_getf (v := y126) hC 51 fl_X11_136 rfl rfl (by decide) rfl e127 dX11_drawAnswer_18 ?_
      refine pm_i2l hC ⟨by omega, by omega⟩ dX11_drawAnswer_21 ?_
      refine pm_callV (ci := 11) (as := [(1, y126)]) (st := []) hC 0 (c_X11_lotBelow_0 y126 ⟨by omega, by omega⟩) lm_X11_392 li_X11_lotBelow (by decide) (by decide) rfl rfl rfl (by decide) rfl rfl (Nat.le_of_ble_eq_true rfl) ⟨Nat.le_refl _, Or.inl rfl⟩ dX11_drawAnswer_22 ⟨rfl, hV10⟩ (fun r129 V130 hp131 => ?_)
      obtain ⟨y132, rfl, b133, hV134, hF135⟩ := hp131
      change pm_J X 25 [(3, (0, y8)), (0, (3, 0)), (1, (0, a1)), (2, (0, a2))] [(0, y132)] 118 V130
      have hF136 := pm_fr.tr hF12 hF135 (by decide)
      have e137 : V130 45 0 = y2 := by rw [hF135 45 (by decide)]; exact e13
      have e138 : V130 51 0 = y126 := by rw [hF135 51 (by decide)]; exact e127
      refine pm_istore (lv' := [(4, (0, y132)), (3, (0, y8)), (0, (3, 0)), (1, (0, a1)), (2, (0, a2))]) hC dX11_drawAnswer_25 (by decide) rfl ?_
      refine pm_aload_n hC 2 (by decide) dX11_drawAnswer_27 rfl ?_
      refine pm_ldc2 (v := 10) hC 5097 dX11_drawAnswer_28 (by decide +kernel) ?_
      refine pm_callV (ci := 11) (as := [(1, 10)]) (st := []) hC 0 (c_X11_lotBelow_0 10 ⟨by decide, by decide⟩) lm_X11_392 li_X11_lotBelow (by decide) (by decide) rfl rfl rfl (by decide) rfl rfl (Nat.le_of_ble_eq_true rfl) ⟨Nat.le_refl _, Or.inl rfl⟩ dX11_drawAnswer_31 ⟨rfl, hV134⟩ (fun r139 V140 hp141 => ?_)
      obtain ⟨y142, rfl, b143, hV144, hF145⟩ := hp141
      change pm_J X 34 [(4, (0, y132)), (3, (0, y8)), (0, (3, 0)), (1, (0, a1)), (2, (0, a2))] [(0, y142)] 118 V140
      have hF146 := pm_fr.tr hF136 hF145 (by decide)
      have e147 : V140 45 0 = y2 := by rw [hF145 45 (by decide)]; exact e137
      have e148 : V140 51 0 = y126 := by rw [hF145 51 (by decide)]; exact e138
      refine pm_istore (lv' := [(5, (0, y142)), (4, (0, y132)), (3, (0, y8)), (0, (3, 0)), (1, (0, a1)), (2, (0, a2))]) hC dX11_drawAnswer_34 (by decide) rfl ?_
      refine pm_aload_n hC 3 (by decide) dX11_drawAnswer_36 rfl ?_
      refine pm_ldc2 (v := 10) hC 5097 dX11_drawAnswer_37 (by decide +kernel) ?_
      refine pm_callV (ci := 11) (as := [(1, 10)]) (st := []) hC 0 (c_X11_lotBelow_0 10 ⟨by decide, by decide⟩) lm_X11_392 li_X11_lotBelow (by decide) (by decide) rfl rfl rfl (by decide) rfl rfl (Nat.le_of_ble_eq_true rfl) ⟨Nat.le_refl _, Or.inl rfl⟩ dX11_drawAnswer_40 ⟨rfl, hV144⟩ (fun r149 V150 hp151 => ?_)
      obtain ⟨y152, rfl, b153, hV154, hF155⟩ := hp151
      change pm_J X 43 [(5, (0, y142)), (4, (0, y132)), (3, (0, y8)), (0, (3, 0)), (1, (0, a1)), (2, (0, a2))] [(0, y152)] 118 V150
      have hF156 := pm_fr.tr hF146 hF155 (by decide)
      have e157 : V150 45 0 = y2 := by rw [hF155 45 (by decide)]; exact e147
      have e158 : V150 51 0 = y126 := by rw [hF155 51 (by decide)]; exact e148
      refine pm_istore (lv' := [(6, (0, y152)), (5, (0, y142)), (4, (0, y132)), (3, (0, y8)), (0, (3, 0)), (1, (0, a1)), (2, (0, a2))]) hC dX11_drawAnswer_43 (by decide) rfl ?_
      refine pm_aload_n hC 4 (by decide) dX11_drawAnswer_45 rfl ?_
      refine pm_ldc2 (v := 199) hC 5098 dX11_drawAnswer_46 (by decide +kernel) ?_
      refine pm_callV (ci := 11) (as := [(1, 199)]) (st := []) hC 0 (c_X11_lotBelow_0 199 ⟨by decide, by decide⟩) lm_X11_392 li_X11_lotBelow (by decide) (by decide) rfl rfl rfl (by decide) rfl rfl (Nat.le_of_ble_eq_true rfl) ⟨Nat.le_refl _, Or.inl rfl⟩ dX11_drawAnswer_49 ⟨rfl, hV154⟩ (fun r159 V160 hp161 => ?_)
      obtain ⟨y162, rfl, b163, hV164, hF165⟩ := hp161
      change pm_J X 52 [(6, (0, y152)), (5, (0, y142)), (4, (0, y132)), (3, (0, y8)), (0, (3, 0)), (1, (0, a1)), (2, (0, a2))] [(0, y162)] 118 V160
      have hF166 := pm_fr.tr hF156 hF165 (by decide)
      have e167 : V160 45 0 = y2 := by rw [hF165 45 (by decide)]; exact e157
      have e168 : V160 51 0 = y126 := by rw [hF165 51 (by decide)]; exact e158
      refine pm_bipush (v := 99) hC dX11_drawAnswer_52 (by decide) ?_
      refine pm_isub hC dX11_drawAnswer_54 ?_
      refine pm_istore (lv' := [(7, (0, (y162 - 99))), (6, (0, y152)), (5, (0, y142)), (4, (0, y132)), (3, (0, y8)), (0, (3, 0)), (1, (0, a1)), (2, (0, a2))]) hC dX11_drawAnswer_55 (by decide) rfl ?_
      refine pm_iload_n hC 7 dX11_drawAnswer_57 rfl ?_
      refine pm_bipush (v := 100) hC dX11_drawAnswer_58 (by decide) ?_
      refine pm_imul hC dX11_drawAnswer_60 ?_
      refine pm_iload_n hC 4 dX11_drawAnswer_61 rfl ?_
      refine pm_bipush (v := 10) hC dX11_drawAnswer_62 (by decide) ?_
      refine pm_imul hC dX11_drawAnswer_64 ?_
      refine pm_iadd hC dX11_drawAnswer_65 ?_
      refine pm_iload hC 3 dX11_drawAnswer_66 rfl ?_
      refine pm_iadd hC dX11_drawAnswer_68 ?_
      have hw170 := pm_dig3 (p := a2) (v := y8) (f := y132) ⟨by omega, by omega⟩ ⟨by omega, by omega⟩ ⟨by omega, by omega⟩
      generalize (((a2 * 100) + (y8 * 10)) + y132) = w169 at hw170 ⊢
      refine pm_istore (lv' := [(8, (0, w169)), (7, (0, (y162 - 99))), (6, (0, y152)), (5, (0, y142)), (4, (0, y132)), (3, (0, y8)), (0, (3, 0)), (1, (0, a1)), (2, (0, a2))]) hC dX11_drawAnswer_69 (by decide) rfl ?_
      refine pm_iload hC 3 dX11_drawAnswer_71 rfl ?_
      refine pm_bipush (v := 10) hC dX11_drawAnswer_73 (by decide) ?_
      refine pm_imul hC dX11_drawAnswer_75 ?_
      refine pm_iload hC 2 dX11_drawAnswer_76 rfl ?_
      refine pm_iadd hC dX11_drawAnswer_78 ?_
      refine pm_istore (lv' := [(9, (0, ((y142 * 10) + y152))), (8, (0, w169)), (7, (0, (y162 - 99))), (6, (0, y152)), (5, (0, y142)), (4, (0, y132)), (3, (0, y8)), (0, (3, 0)), (1, (0, a1)), (2, (0, a2))]) hC dX11_drawAnswer_79 (by decide) rfl ?_
      refine pm_aload_n hC 7 (by decide) dX11_drawAnswer_81 rfl ?_
      refine pm_iload hC 1 dX11_drawAnswer_82 rfl ?_
      refine pm_iload hC 0 dX11_drawAnswer_84 rfl ?_
      refine pm_iload hC 2 dX11_drawAnswer_86 rfl ?_
      refine pm_callV (ci := 11) (as := [(0, w169), (0, ((y142 * 10) + y152)), (0, (y162 - 99))]) (st := []) hC 0 (c_X11_pose_0 w169 ((y142 * 10) + y152) (y162 - 99) ⟨by omega, by omega⟩ ⟨by omega, by omega⟩ ⟨by omega, by omega⟩ (by omega)) lm_X11_229 li_X11_pose (by decide) (by decide) rfl rfl rfl (by decide) rfl rfl (Nat.le_of_ble_eq_true rfl) ⟨Nat.le_refl _, Or.inl rfl⟩ dX11_drawAnswer_88 ⟨rfl, hV164⟩ (fun r171 V172 hp173 => ?_)
      obtain ⟨rfl, hV174, hF175⟩ := hp173
      change pm_J X 91 [(9, (0, ((y142 * 10) + y152))), (8, (0, w169)), (7, (0, (y162 - 99))), (6, (0, y152)), (5, (0, y142)), (4, (0, y132)), (3, (0, y8)), (0, (3, 0)), (1, (0, a1)), (2, (0, a2))] [] 118 V172
      have hF176 := pm_fr.tr hF166 hF175 (by decide)
      have e177 : V172 45 0 = y2 := by rw [hF175 45 (by decide)]; exact e167
      have e178 : V172 51 0 = y126 := by rw [hF175 51 (by decide)]; exact e168
      refine pm_aload_n hC 7 (by decide) dX11_drawAnswer_91 rfl ?_
      have e179 : V172 0 5 = 73 := hV174.one 0 5 (by decide) (by decide) rfl
      refine pm_getf (v := 73) hC 0 fl_X11_75 rfl rfl (by decide) rfl e179 dX11_drawAnswer_92 ?_
      refine pm_iload_n hC 8 dX11_drawAnswer_95 rfl ?_
      refine pm_callV (ci := 10) (as := [(0, a1)]) (st := []) hC 73 (c_X10_weigh_73 a1 ⟨by omega, by omega⟩) lm_X11_294 li_X10_weigh (by decide) (by decide) rfl rfl rfl (by decide) rfl rfl (Nat.le_of_ble_eq_true rfl) ⟨Nat.le_refl _, Or.inl rfl⟩ dX11_drawAnswer_96 ⟨rfl, hV174⟩ (fun r180 V181 hp182 => ?_)
      obtain ⟨rfl, hV183, hF184⟩ := hp182
      change pm_J X 99 [(9, (0, ((y142 * 10) + y152))), (8, (0, w169)), (7, (0, (y162 - 99))), (6, (0, y152)), (5, (0, y142)), (4, (0, y132)), (3, (0, y8)), (0, (3, 0)), (1, (0, a1)), (2, (0, a2))] [] 118 V181
      have hF185 := pm_fr.tr hF176 hF184 (by decide)
      have e186 : V181 45 0 = y2 := by rw [hF184 45 (by decide)]; exact e177
      have e187 : V181 51 0 = y126 := by rw [hF184 51 (by decide)]; exact e178
      have e188 : V181 0 5 = 73 := by rw [hF184 0 (by decide)]; exact e179
      refine pm_aload_n hC 7 (by decide) dX11_drawAnswer_99 rfl ?_
      refine pm_getf (v := 73) hC 0 fl_X11_75 rfl rfl (by decide) rfl e188 dX11_drawAnswer_100 ?_
      refine pm_aload_n hC 7 (by decide) dX11_drawAnswer_103 rfl ?_
      refine pm_aload_n hC 7 (by decide) dX11_drawAnswer_104 rfl ?_
      refine pm_getf (v := 73) hC 0 fl_X11_75 rfl rfl (by decide) rfl e188 dX11_drawAnswer_105 ?_
      obtain ⟨y189, e190⟩ : ∃ y, V181 73 14 = y := ⟨_, rfl⟩
      have b191 := hV183.get 73 14 (lo := (-9223372036854775808)) (hi := 9223372036854775807) (by decide) (by decide) rfl
      rw [e190] at b191
      refine pm_getf (v := y189) hC 73 fl_X11_205 rfl rfl (by decide) rfl e190 dX11_drawAnswer_108 ?_
      refine pm_callV (ci := 11) (as := [(1, y189)]) (st := [(3, 73)]) hC 0 (c_X11_lotBelow_0 y189 ⟨by omega, by omega⟩) lm_X11_392 li_X11_lotBelow (by decide) (by decide) rfl rfl rfl (by decide) rfl rfl (Nat.le_of_ble_eq_true rfl) ⟨Nat.le_refl _, Or.inl rfl⟩ dX11_drawAnswer_111 ⟨rfl, hV183⟩ (fun r192 V193 hp194 => ?_)
      obtain ⟨y195, rfl, b196, hV197, hF198⟩ := hp194
      change pm_J X 114 [(9, (0, ((y142 * 10) + y152))), (8, (0, w169)), (7, (0, (y162 - 99))), (6, (0, y152)), (5, (0, y142)), (4, (0, y132)), (3, (0, y8)), (0, (3, 0)), (1, (0, a1)), (2, (0, a2))] [(0, y195), (3, 73)] 118 V193
      have hF199 := pm_fr.tr hF185 hF198 (by decide)
      have e200 : V193 45 0 = y2 := by rw [hF198 45 (by decide)]; exact e186
      have e201 : V193 51 0 = y126 := by rw [hF198 51 (by decide)]; exact e187
      have e202 : V193 73 14 = y189 := by rw [hF198 73 (by decide)]; exact e190
      refine pm_i2l hC ⟨by omega, by omega⟩ dX11_drawAnswer_114 ?_
      refine pm_callV (ci := 10) (as := [(1, y195)]) (st := []) hC 73 (c_X10_saidAt_73 y195 ⟨by omega, by omega⟩) lm_X11_400 li_X10_saidAt (by decide) (by decide) rfl rfl rfl (by decide) rfl rfl (Nat.le_of_ble_eq_true rfl) ⟨Nat.le_refl _, Or.inl rfl⟩ dX11_drawAnswer_115 ⟨rfl, hV197⟩ (fun r203 V204 hp205 => ?_)
      obtain ⟨y206, rfl, b207, rfl⟩ := hp205
      change pm_J X 118 [(9, (0, ((y142 * 10) + y152))), (8, (0, w169)), (7, (0, (y162 - 99))), (6, (0, y152)), (5, (0, y142)), (4, (0, y132)), (3, (0, y8)), (0, (3, 0)), (1, (0, a1)), (2, (0, a2))] [(0, y206)] 118 V193
      refine pm_istore (lv' := [(10, (0, y206)), (9, (0, ((y142 * 10) + y152))), (8, (0, w169)), (7, (0, (y162 - 99))), (6, (0, y152)), (5, (0, y142)), (4, (0, y132)), (3, (0, y8)), (0, (3, 0)), (1, (0, a1)), (2, (0, a2))]) hC dX11_drawAnswer_118 (by decide) rfl ?_
      refine pm_aload_n hC 8 (by decide) dX11_drawAnswer_120 rfl ?_
      refine pm_ldc2 (v := 1000) hC 4082 dX11_drawAnswer_121 (by decide +kernel) ?_
      refine pm_callV (ci := 11) (as := [(1, 1000)]) (st := []) hC 0 (c_X11_lotBelow_0 1000 ⟨by decide, by decide⟩) lm_X11_392 li_X11_lotBelow (by decide) (by decide) rfl rfl rfl (by decide) rfl rfl (Nat.le_of_ble_eq_true rfl) ⟨Nat.le_refl _, Or.inl rfl⟩ dX11_drawAnswer_124 ⟨rfl, hV197⟩ (fun r208 V209 hp210 => ?_)
      obtain ⟨y211, rfl, b212, hV213, hF214⟩ := hp210
      change pm_J X 127 [(10, (0, y206)), (9, (0, ((y142 * 10) + y152))), (8, (0, w169)), (7, (0, (y162 - 99))), (6, (0, y152)), (5, (0, y142)), (4, (0, y132)), (3, (0, y8)), (0, (3, 0)), (1, (0, a1)), (2, (0, a2))] [(0, y211)] 118 V209
      have hF215 := pm_fr.tr hF199 hF214 (by decide)
      have e216 : V209 45 0 = y2 := by rw [hF214 45 (by decide)]; exact e200
      have e217 : V209 51 0 = y126 := by rw [hF214 51 (by decide)]; exact e201
      have e218 : V209 73 14 = y189 := by rw [hF214 73 (by decide)]; exact e202
      refine pm_aload_n hC 8 (by decide) dX11_drawAnswer_127 rfl ?_
      have e219 : V209 0 5 = 73 := hV213.one 0 5 (by decide) (by decide) rfl
      refine pm_getf (v := 73) hC 0 fl_X11_75 rfl rfl (by decide) rfl e219 dX11_drawAnswer_128 ?_
      refine pm_callV (ci := 10) (as := []) (st := [(0, y211)]) hC 73 c_X10_chanceNoticed_73 lm_X11_233 li_X10_chanceNoticed (by decide) (by decide) rfl rfl rfl (by decide) rfl rfl (Nat.le_of_ble_eq_true rfl) ⟨Nat.le_refl _, Or.inl rfl⟩ dX11_drawAnswer_131 ⟨rfl, hV213⟩ (fun r220 V221 hp222 => ?_)
      obtain ⟨y223, rfl, b224, rfl⟩ := hp222
      change pm_J X 134 [(10, (0, y206)), (9, (0, ((y142 * 10) + y152))), (8, (0, w169)), (7, (0, (y162 - 99))), (6, (0, y152)), (5, (0, y142)), (4, (0, y132)), (3, (0, y8)), (0, (3, 0)), (1, (0, a1)), (2, (0, a2))] [(0, y223), (0, y211)] 118 V209
      refine pm_icmp_ge (tgt := 141) hC ⟨by omega, by omega⟩ ⟨by omega, by omega⟩ dX11_drawAnswer_134 (by decide) (fun c225 => ?_) (fun c225 => ?_)
      · skip
        refine pm_iconst (v := 0) hC dX11_drawAnswer_141 ?_
        refine pm_istore (lv' := [(11, (0, 0)), (10, (0, y206)), (9, (0, ((y142 * 10) + y152))), (8, (0, w169)), (7, (0, (y162 - 99))), (6, (0, y152)), (5, (0, y142)), (4, (0, y132)), (3, (0, y8)), (0, (3, 0)), (1, (0, a1)), (2, (0, a2))]) hC dX11_drawAnswer_142 (by decide) rfl ?_
        refine pm_aload_n hC 9 (by decide) dX11_drawAnswer_144 rfl ?_
        have e226 : V209 0 3 = 4 := hV213.one 0 3 (by decide) (by decide) rfl
        refine pm_getf (v := 4) hC 0 fl_X11_24 rfl rfl (by decide) rfl e226 dX11_drawAnswer_145 ?_
        refine pm_iload hC 3 dX11_drawAnswer_148 rfl ?_
        refine pm_iload hC 2 dX11_drawAnswer_150 rfl ?_
        refine pm_iload hC 4 dX11_drawAnswer_152 rfl ?_
        refine pm_iload hC 1 dX11_drawAnswer_154 rfl ?_
        refine pm_iload hC 0 dX11_drawAnswer_156 rfl ?_
        refine pm_callV (ci := 7) (as := [(0, w169), (0, ((y142 * 10) + y152)), (0, (y162 - 99)), (0, y206), (0, 0)]) (st := []) hC 4 (c_X7_addAnswer_4 w169 ((y142 * 10) + y152) (y162 - 99) y206 0 ⟨by omega, by omega⟩ ⟨by omega, by omega⟩ ⟨by omega, by omega⟩ ⟨by omega, by omega⟩ ⟨by decide, by decide⟩ (by omega)) lm_X11_236 li_X7_addAnswer (by decide) (by decide) rfl rfl rfl (by decide) rfl rfl (Nat.le_of_ble_eq_true rfl) ⟨Nat.le_refl _, Or.inl rfl⟩ dX11_drawAnswer_158 ⟨rfl, hV213⟩ (fun r227 V228 hp229 => ?_)
        obtain ⟨rfl, hV230, hF231⟩ := hp229
        change pm_J X 161 [(11, (0, 0)), (10, (0, y206)), (9, (0, ((y142 * 10) + y152))), (8, (0, w169)), (7, (0, (y162 - 99))), (6, (0, y152)), (5, (0, y142)), (4, (0, y132)), (3, (0, y8)), (0, (3, 0)), (1, (0, a1)), (2, (0, a2))] [] 118 V228
        have hF232 := pm_fr.tr hF215 hF231 (by decide)
        have e233 : V228 45 0 = y2 := by rw [hF231 45 (by decide)]; exact e216
        have e234 : V228 51 0 = y126 := by rw [hF231 51 (by decide)]; exact e217
        have e235 : V228 73 14 = y189 := by rw [hF231 73 (by decide)]; exact e218
        have e236 : V228 0 5 = 73 := by rw [hF231 0 (by decide)]; exact e219
        have e237 : V228 0 3 = 4 := by rw [hF231 0 (by decide)]; exact e226
        exact pm_vret hC hR ⟨rfl, hV230, hF232⟩ dX11_drawAnswer_161
      · skip
        refine pm_iconst (v := 1) hC dX11_drawAnswer_137 ?_
        refine pm_goto (tgt := 142) hC dX11_drawAnswer_138 (by decide) ?_
        refine pm_istore (lv' := [(11, (0, 1)), (10, (0, y206)), (9, (0, ((y142 * 10) + y152))), (8, (0, w169)), (7, (0, (y162 - 99))), (6, (0, y152)), (5, (0, y142)), (4, (0, y132)), (3, (0, y8)), (0, (3, 0)), (1, (0, a1)), (2, (0, a2))]) hC dX11_drawAnswer_142 (by decide) rfl ?_
        refine pm_aload_n hC 9 (by decide) dX11_drawAnswer_144 rfl ?_
        have e238 : V209 0 3 = 4 := hV213.one 0 3 (by decide) (by decide) rfl
        refine pm_getf (v := 4) hC 0 fl_X11_24 rfl rfl (by decide) rfl e238 dX11_drawAnswer_145 ?_
        refine pm_iload hC 3 dX11_drawAnswer_148 rfl ?_
        refine pm_iload hC 2 dX11_drawAnswer_150 rfl ?_
        refine pm_iload hC 4 dX11_drawAnswer_152 rfl ?_
        refine pm_iload hC 1 dX11_drawAnswer_154 rfl ?_
        refine pm_iload hC 0 dX11_drawAnswer_156 rfl ?_
        refine pm_callV (ci := 7) (as := [(0, w169), (0, ((y142 * 10) + y152)), (0, (y162 - 99)), (0, y206), (0, 1)]) (st := []) hC 4 (c_X7_addAnswer_4 w169 ((y142 * 10) + y152) (y162 - 99) y206 1 ⟨by omega, by omega⟩ ⟨by omega, by omega⟩ ⟨by omega, by omega⟩ ⟨by omega, by omega⟩ ⟨by decide, by decide⟩ (by omega)) lm_X11_236 li_X7_addAnswer (by decide) (by decide) rfl rfl rfl (by decide) rfl rfl (Nat.le_of_ble_eq_true rfl) ⟨Nat.le_refl _, Or.inl rfl⟩ dX11_drawAnswer_158 ⟨rfl, hV213⟩ (fun r239 V240 hp241 => ?_)
        obtain ⟨rfl, hV242, hF243⟩ := hp241
        change pm_J X 161 [(11, (0, 1)), (10, (0, y206)), (9, (0, ((y142 * 10) + y152))), (8, (0, w169)), (7, (0, (y162 - 99))), (6, (0, y152)), (5, (0, y142)), (4, (0, y132)), (3, (0, y8)), (0, (3, 0)), (1, (0, a1)), (2, (0, a2))] [] 118 V240
        have hF244 := pm_fr.tr hF215 hF243 (by decide)
        have e245 : V240 45 0 = y2 := by rw [hF243 45 (by decide)]; exact e216
        have e246 : V240 51 0 = y126 := by rw [hF243 51 (by decide)]; exact e217
        have e247 : V240 73 14 = y189 := by rw [hF243 73 (by decide)]; exact e218
        have e248 : V240 0 5 = 73 := by rw [hF243 0 (by decide)]; exact e219
        have e249 : V240 0 3 = 4 := by rw [hF243 0 (by decide)]; exact e238
        exact pm_vret hC hR ⟨rfl, hV242, hF244⟩ dX11_drawAnswer_161
  · skip
    refine pm_getf (v := 51) hC 0 fl_X11_35 rfl rfl (by decide) rfl e1 dX11_drawAnswer_2 ?_
    obtain ⟨y250, e251⟩ : ∃ y, V0 51 0 = y := ⟨_, rfl⟩
    have b252 := hV0.get 51 0 (lo := 0) (hi := 9) (by decide) (by decide) rfl
    rw [e251] at b252
    refine pm_getf (v := y250) hC 51 fl_X11_136 rfl rfl (by decide) rfl e251 dX11_drawAnswer_5 ?_
    refine pm_i2l hC ⟨by omega, by omega⟩ dX11_drawAnswer_8 ?_
    refine pm_callV (ci := 11) (as := [(1, y250)]) (st := []) hC 0 (c_X11_lotBelow_0 y250 ⟨by omega, by omega⟩) lm_X11_392 li_X11_lotBelow (by decide) (by decide) rfl rfl rfl (by decide) rfl rfl (Nat.le_of_ble_eq_true rfl) ⟨Nat.le_refl _, Or.inl rfl⟩ dX11_drawAnswer_9 ⟨rfl, hV0⟩ (fun r253 V254 hp255 => ?_)
    obtain ⟨y256, rfl, b257, hV258, hF259⟩ := hp255
    change pm_J X 12 [(0, (3, 0)), (1, (0, a1)), (2, (0, a2))] [(0, y256)] 118 V254
    have hF260 := pm_fr.tr (pm_fr.rf (ws := [0, 4, 9, 10, 11, 12, 13, 73, 74, 75, 76, 77]) (V := V0)) hF259 (by decide)
    have e261 : V254 51 0 = y250 := by rw [hF259 51 (by decide)]; exact e251
    refine pm_istore_n (lv' := [(3, (0, y256)), (0, (3, 0)), (1, (0, a1)), (2, (0, a2))]) hC dX11_drawAnswer_12 (by decide) rfl ?_
    refine pm_aload_n hC 1 (by decide) dX11_drawAnswer_13 rfl ?_
    refine pm_aload_n hC 1 (by decide) dX11_drawAnswer_14 rfl ?_
    rcases hV258.get2 0 8 (lo := 45) (hi := 51) (by decide) (by decide) rfl with e262 | e262
    · skip
      refine pm_getf (v := 45) hC 0 fl_X11_35 rfl rfl (by decide) rfl e262 dX11_drawAnswer_15 ?_
      obtain ⟨y263, e264⟩ : ∃ y, V254 45 0 = y := ⟨_, rfl⟩
      have b265 := hV258.get 45 0 (lo := 0) (hi := 9) (by decide) (by decide) rfl
      rw [e264] at b265
      refine pm_getf (v := y263) hC 45 fl_X11_136 rfl rfl (by decide) rfl e264 dX11_drawAnswer_18 ?_
      refine pm_i2l hC ⟨by omega, by omega⟩ dX11_drawAnswer_21 ?_
      refine pm_callV (ci := 11) (as := [(1, y263)]) (st := []) hC 0 (c_X11_lotBelow_0 y263 ⟨by omega, by omega⟩) lm_X11_392 li_X11_lotBelow (by decide) (by decide) rfl rfl rfl (by decide) rfl rfl (Nat.le_of_ble_eq_true rfl) ⟨Nat.le_refl _, Or.inl rfl⟩ dX11_drawAnswer_22 ⟨rfl, hV258⟩ (fun r266 V267 hp268 => ?_)
      obtain ⟨y269, rfl, b270, hV271, hF272⟩ := hp268
      change pm_J X 25 [(3, (0, y256)), (0, (3, 0)), (1, (0, a1)), (2, (0, a2))] [(0, y269)] 118 V267
      have hF273 := pm_fr.tr hF260 hF272 (by decide)
      have e274 : V267 51 0 = y250 := by rw [hF272 51 (by decide)]; exact e261
      have e275 : V267 45 0 = y263 := by rw [hF272 45 (by decide)]; exact e264
      refine pm_istore (lv' := [(4, (0, y269)), (3, (0, y256)), (0, (3, 0)), (1, (0, a1)), (2, (0, a2))]) hC dX11_drawAnswer_25 (by decide) rfl ?_
      refine pm_aload_n hC 2 (by decide) dX11_drawAnswer_27 rfl ?_
      refine pm_ldc2 (v := 10) hC 5097 dX11_drawAnswer_28 (by decide +kernel) ?_
      refine pm_callV (ci := 11) (as := [(1, 10)]) (st := []) hC 0 (c_X11_lotBelow_0 10 ⟨by decide, by decide⟩) lm_X11_392 li_X11_lotBelow (by decide) (by decide) rfl rfl rfl (by decide) rfl rfl (Nat.le_of_ble_eq_true rfl) ⟨Nat.le_refl _, Or.inl rfl⟩ dX11_drawAnswer_31 ⟨rfl, hV271⟩ (fun r276 V277 hp278 => ?_)
      obtain ⟨y279, rfl, b280, hV281, hF282⟩ := hp278
      change pm_J X 34 [(4, (0, y269)), (3, (0, y256)), (0, (3, 0)), (1, (0, a1)), (2, (0, a2))] [(0, y279)] 118 V277
      have hF283 := pm_fr.tr hF273 hF282 (by decide)
      have e284 : V277 51 0 = y250 := by rw [hF282 51 (by decide)]; exact e274
      have e285 : V277 45 0 = y263 := by rw [hF282 45 (by decide)]; exact e275
      refine pm_istore (lv' := [(5, (0, y279)), (4, (0, y269)), (3, (0, y256)), (0, (3, 0)), (1, (0, a1)), (2, (0, a2))]) hC dX11_drawAnswer_34 (by decide) rfl ?_
      refine pm_aload_n hC 3 (by decide) dX11_drawAnswer_36 rfl ?_
      refine pm_ldc2 (v := 10) hC 5097 dX11_drawAnswer_37 (by decide +kernel) ?_
      refine pm_callV (ci := 11) (as := [(1, 10)]) (st := []) hC 0 (c_X11_lotBelow_0 10 ⟨by decide, by decide⟩) lm_X11_392 li_X11_lotBelow (by decide) (by decide) rfl rfl rfl (by decide) rfl rfl (Nat.le_of_ble_eq_true rfl) ⟨Nat.le_refl _, Or.inl rfl⟩ dX11_drawAnswer_40 ⟨rfl, hV281⟩ (fun r286 V287 hp288 => ?_)
      obtain ⟨y289, rfl, b290, hV291, hF292⟩ := hp288
      change pm_J X 43 [(5, (0, y279)), (4, (0, y269)), (3, (0, y256)), (0, (3, 0)), (1, (0, a1)), (2, (0, a2))] [(0, y289)] 118 V287
      have hF293 := pm_fr.tr hF283 hF292 (by decide)
      have e294 : V287 51 0 = y250 := by rw [hF292 51 (by decide)]; exact e284
      have e295 : V287 45 0 = y263 := by rw [hF292 45 (by decide)]; exact e285
      refine pm_istore (lv' := [(6, (0, y289)), (5, (0, y279)), (4, (0, y269)), (3, (0, y256)), (0, (3, 0)), (1, (0, a1)), (2, (0, a2))]) hC dX11_drawAnswer_43 (by decide) rfl ?_
      refine pm_aload_n hC 4 (by decide) dX11_drawAnswer_45 rfl ?_
      refine pm_ldc2 (v := 199) hC 5098 dX11_drawAnswer_46 (by decide +kernel) ?_
      refine pm_callV (ci := 11) (as := [(1, 199)]) (st := []) hC 0 (c_X11_lotBelow_0 199 ⟨by decide, by decide⟩) lm_X11_392 li_X11_lotBelow (by decide) (by decide) rfl rfl rfl (by decide) rfl rfl (Nat.le_of_ble_eq_true rfl) ⟨Nat.le_refl _, Or.inl rfl⟩ dX11_drawAnswer_49 ⟨rfl, hV291⟩ (fun r296 V297 hp298 => ?_)
      obtain ⟨y299, rfl, b300, hV301, hF302⟩ := hp298
      change pm_J X 52 [(6, (0, y289)), (5, (0, y279)), (4, (0, y269)), (3, (0, y256)), (0, (3, 0)), (1, (0, a1)), (2, (0, a2))] [(0, y299)] 118 V297
      have hF303 := pm_fr.tr hF293 hF302 (by decide)
      have e304 : V297 51 0 = y250 := by rw [hF302 51 (by decide)]; exact e294
      have e305 : V297 45 0 = y263 := by rw [hF302 45 (by decide)]; exact e295
      refine pm_bipush (v := 99) hC dX11_drawAnswer_52 (by decide) ?_
      refine pm_isub hC dX11_drawAnswer_54 ?_
      refine pm_istore (lv' := [(7, (0, (y299 - 99))), (6, (0, y289)), (5, (0, y279)), (4, (0, y269)), (3, (0, y256)), (0, (3, 0)), (1, (0, a1)), (2, (0, a2))]) hC dX11_drawAnswer_55 (by decide) rfl ?_
      refine pm_iload_n hC 7 dX11_drawAnswer_57 rfl ?_
      refine pm_bipush (v := 100) hC dX11_drawAnswer_58 (by decide) ?_
      refine pm_imul hC dX11_drawAnswer_60 ?_
      refine pm_iload_n hC 4 dX11_drawAnswer_61 rfl ?_
      refine pm_bipush (v := 10) hC dX11_drawAnswer_62 (by decide) ?_
      refine pm_imul hC dX11_drawAnswer_64 ?_
      refine pm_iadd hC dX11_drawAnswer_65 ?_
      refine pm_iload hC 3 dX11_drawAnswer_66 rfl ?_
      refine pm_iadd hC dX11_drawAnswer_68 ?_
      have hw307 := pm_dig3 (p := a2) (v := y256) (f := y269) ⟨by omega, by omega⟩ ⟨by omega, by omega⟩ ⟨by omega, by omega⟩
      generalize (((a2 * 100) + (y256 * 10)) + y269) = w306 at hw307 ⊢
      refine pm_istore (lv' := [(8, (0, w306)), (7, (0, (y299 - 99))), (6, (0, y289)), (5, (0, y279)), (4, (0, y269)), (3, (0, y256)), (0, (3, 0)), (1, (0, a1)), (2, (0, a2))]) hC dX11_drawAnswer_69 (by decide) rfl ?_
      refine pm_iload hC 3 dX11_drawAnswer_71 rfl ?_
      refine pm_bipush (v := 10) hC dX11_drawAnswer_73 (by decide) ?_
      refine pm_imul hC dX11_drawAnswer_75 ?_
      refine pm_iload hC 2 dX11_drawAnswer_76 rfl ?_
      refine pm_iadd hC dX11_drawAnswer_78 ?_
      refine pm_istore (lv' := [(9, (0, ((y279 * 10) + y289))), (8, (0, w306)), (7, (0, (y299 - 99))), (6, (0, y289)), (5, (0, y279)), (4, (0, y269)), (3, (0, y256)), (0, (3, 0)), (1, (0, a1)), (2, (0, a2))]) hC dX11_drawAnswer_79 (by decide) rfl ?_
      refine pm_aload_n hC 7 (by decide) dX11_drawAnswer_81 rfl ?_
      refine pm_iload hC 1 dX11_drawAnswer_82 rfl ?_
      refine pm_iload hC 0 dX11_drawAnswer_84 rfl ?_
      refine pm_iload hC 2 dX11_drawAnswer_86 rfl ?_
      refine pm_callV (ci := 11) (as := [(0, w306), (0, ((y279 * 10) + y289)), (0, (y299 - 99))]) (st := []) hC 0 (c_X11_pose_0 w306 ((y279 * 10) + y289) (y299 - 99) ⟨by omega, by omega⟩ ⟨by omega, by omega⟩ ⟨by omega, by omega⟩ (by omega)) lm_X11_229 li_X11_pose (by decide) (by decide) rfl rfl rfl (by decide) rfl rfl (Nat.le_of_ble_eq_true rfl) ⟨Nat.le_refl _, Or.inl rfl⟩ dX11_drawAnswer_88 ⟨rfl, hV301⟩ (fun r308 V309 hp310 => ?_)
      obtain ⟨rfl, hV311, hF312⟩ := hp310
      change pm_J X 91 [(9, (0, ((y279 * 10) + y289))), (8, (0, w306)), (7, (0, (y299 - 99))), (6, (0, y289)), (5, (0, y279)), (4, (0, y269)), (3, (0, y256)), (0, (3, 0)), (1, (0, a1)), (2, (0, a2))] [] 118 V309
      have hF313 := pm_fr.tr hF303 hF312 (by decide)
      have e314 : V309 51 0 = y250 := by rw [hF312 51 (by decide)]; exact e304
      have e315 : V309 45 0 = y263 := by rw [hF312 45 (by decide)]; exact e305
      refine pm_aload_n hC 7 (by decide) dX11_drawAnswer_91 rfl ?_
      have e316 : V309 0 5 = 73 := hV311.one 0 5 (by decide) (by decide) rfl
      refine pm_getf (v := 73) hC 0 fl_X11_75 rfl rfl (by decide) rfl e316 dX11_drawAnswer_92 ?_
      refine pm_iload_n hC 8 dX11_drawAnswer_95 rfl ?_
      refine pm_callV (ci := 10) (as := [(0, a1)]) (st := []) hC 73 (c_X10_weigh_73 a1 ⟨by omega, by omega⟩) lm_X11_294 li_X10_weigh (by decide) (by decide) rfl rfl rfl (by decide) rfl rfl (Nat.le_of_ble_eq_true rfl) ⟨Nat.le_refl _, Or.inl rfl⟩ dX11_drawAnswer_96 ⟨rfl, hV311⟩ (fun r317 V318 hp319 => ?_)
      obtain ⟨rfl, hV320, hF321⟩ := hp319
      change pm_J X 99 [(9, (0, ((y279 * 10) + y289))), (8, (0, w306)), (7, (0, (y299 - 99))), (6, (0, y289)), (5, (0, y279)), (4, (0, y269)), (3, (0, y256)), (0, (3, 0)), (1, (0, a1)), (2, (0, a2))] [] 118 V318
      have hF322 := pm_fr.tr hF313 hF321 (by decide)
      have e323 : V318 51 0 = y250 := by rw [hF321 51 (by decide)]; exact e314
      have e324 : V318 45 0 = y263 := by rw [hF321 45 (by decide)]; exact e315
      have e325 : V318 0 5 = 73 := by rw [hF321 0 (by decide)]; exact e316
      refine pm_aload_n hC 7 (by decide) dX11_drawAnswer_99 rfl ?_
      refine pm_getf (v := 73) hC 0 fl_X11_75 rfl rfl (by decide) rfl e325 dX11_drawAnswer_100 ?_
      refine pm_aload_n hC 7 (by decide) dX11_drawAnswer_103 rfl ?_
      refine pm_aload_n hC 7 (by decide) dX11_drawAnswer_104 rfl ?_
      refine pm_getf (v := 73) hC 0 fl_X11_75 rfl rfl (by decide) rfl e325 dX11_drawAnswer_105 ?_
      obtain ⟨y326, e327⟩ : ∃ y, V318 73 14 = y := ⟨_, rfl⟩
      have b328 := hV320.get 73 14 (lo := (-9223372036854775808)) (hi := 9223372036854775807) (by decide) (by decide) rfl
      rw [e327] at b328
      refine pm_getf (v := y326) hC 73 fl_X11_205 rfl rfl (by decide) rfl e327 dX11_drawAnswer_108 ?_
      refine pm_callV (ci := 11) (as := [(1, y326)]) (st := [(3, 73)]) hC 0 (c_X11_lotBelow_0 y326 ⟨by omega, by omega⟩) lm_X11_392 li_X11_lotBelow (by decide) (by decide) rfl rfl rfl (by decide) rfl rfl (Nat.le_of_ble_eq_true rfl) ⟨Nat.le_refl _, Or.inl rfl⟩ dX11_drawAnswer_111 ⟨rfl, hV320⟩ (fun r329 V330 hp331 => ?_)
      obtain ⟨y332, rfl, b333, hV334, hF335⟩ := hp331
      change pm_J X 114 [(9, (0, ((y279 * 10) + y289))), (8, (0, w306)), (7, (0, (y299 - 99))), (6, (0, y289)), (5, (0, y279)), (4, (0, y269)), (3, (0, y256)), (0, (3, 0)), (1, (0, a1)), (2, (0, a2))] [(0, y332), (3, 73)] 118 V330
      have hF336 := pm_fr.tr hF322 hF335 (by decide)
      have e337 : V330 51 0 = y250 := by rw [hF335 51 (by decide)]; exact e323
      have e338 : V330 45 0 = y263 := by rw [hF335 45 (by decide)]; exact e324
      have e339 : V330 73 14 = y326 := by rw [hF335 73 (by decide)]; exact e327
      refine pm_i2l hC ⟨by omega, by omega⟩ dX11_drawAnswer_114 ?_
      refine pm_callV (ci := 10) (as := [(1, y332)]) (st := []) hC 73 (c_X10_saidAt_73 y332 ⟨by omega, by omega⟩) lm_X11_400 li_X10_saidAt (by decide) (by decide) rfl rfl rfl (by decide) rfl rfl (Nat.le_of_ble_eq_true rfl) ⟨Nat.le_refl _, Or.inl rfl⟩ dX11_drawAnswer_115 ⟨rfl, hV334⟩ (fun r340 V341 hp342 => ?_)
      obtain ⟨y343, rfl, b344, rfl⟩ := hp342
      change pm_J X 118 [(9, (0, ((y279 * 10) + y289))), (8, (0, w306)), (7, (0, (y299 - 99))), (6, (0, y289)), (5, (0, y279)), (4, (0, y269)), (3, (0, y256)), (0, (3, 0)), (1, (0, a1)), (2, (0, a2))] [(0, y343)] 118 V330
      refine pm_istore (lv' := [(10, (0, y343)), (9, (0, ((y279 * 10) + y289))), (8, (0, w306)), (7, (0, (y299 - 99))), (6, (0, y289)), (5, (0, y279)), (4, (0, y269)), (3, (0, y256)), (0, (3, 0)), (1, (0, a1)), (2, (0, a2))]) hC dX11_drawAnswer_118 (by decide) rfl ?_
      refine pm_aload_n hC 8 (by decide) dX11_drawAnswer_120 rfl ?_
      refine pm_ldc2 (v := 1000) hC 4082 dX11_drawAnswer_121 (by decide +kernel) ?_
      refine pm_callV (ci := 11) (as := [(1, 1000)]) (st := []) hC 0 (c_X11_lotBelow_0 1000 ⟨by decide, by decide⟩) lm_X11_392 li_X11_lotBelow (by decide) (by decide) rfl rfl rfl (by decide) rfl rfl (Nat.le_of_ble_eq_true rfl) ⟨Nat.le_refl _, Or.inl rfl⟩ dX11_drawAnswer_124 ⟨rfl, hV334⟩ (fun r345 V346 hp347 => ?_)
      obtain ⟨y348, rfl, b349, hV350, hF351⟩ := hp347
      change pm_J X 127 [(10, (0, y343)), (9, (0, ((y279 * 10) + y289))), (8, (0, w306)), (7, (0, (y299 - 99))), (6, (0, y289)), (5, (0, y279)), (4, (0, y269)), (3, (0, y256)), (0, (3, 0)), (1, (0, a1)), (2, (0, a2))] [(0, y348)] 118 V346
      have hF352 := pm_fr.tr hF336 hF351 (by decide)
      have e353 : V346 51 0 = y250 := by rw [hF351 51 (by decide)]; exact e337
      have e354 : V346 45 0 = y263 := by rw [hF351 45 (by decide)]; exact e338
      have e355 : V346 73 14 = y326 := by rw [hF351 73 (by decide)]; exact e339
      refine pm_aload_n hC 8 (by decide) dX11_drawAnswer_127 rfl ?_
      have e356 : V346 0 5 = 73 := hV350.one 0 5 (by decide) (by decide) rfl
      refine pm_getf (v := 73) hC 0 fl_X11_75 rfl rfl (by decide) rfl e356 dX11_drawAnswer_128 ?_
      refine pm_callV (ci := 10) (as := []) (st := [(0, y348)]) hC 73 c_X10_chanceNoticed_73 lm_X11_233 li_X10_chanceNoticed (by decide) (by decide) rfl rfl rfl (by decide) rfl rfl (Nat.le_of_ble_eq_true rfl) ⟨Nat.le_refl _, Or.inl rfl⟩ dX11_drawAnswer_131 ⟨rfl, hV350⟩ (fun r357 V358 hp359 => ?_)
      obtain ⟨y360, rfl, b361, rfl⟩ := hp359
      change pm_J X 134 [(10, (0, y343)), (9, (0, ((y279 * 10) + y289))), (8, (0, w306)), (7, (0, (y299 - 99))), (6, (0, y289)), (5, (0, y279)), (4, (0, y269)), (3, (0, y256)), (0, (3, 0)), (1, (0, a1)), (2, (0, a2))] [(0, y360), (0, y348)] 118 V346
      refine pm_icmp_ge (tgt := 141) hC ⟨by omega, by omega⟩ ⟨by omega, by omega⟩ dX11_drawAnswer_134 (by decide) (fun c362 => ?_) (fun c362 => ?_)
      · skip
        refine pm_iconst (v := 0) hC dX11_drawAnswer_141 ?_
        refine pm_istore (lv' := [(11, (0, 0)), (10, (0, y343)), (9, (0, ((y279 * 10) + y289))), (8, (0, w306)), (7, (0, (y299 - 99))), (6, (0, y289)), (5, (0, y279)), (4, (0, y269)), (3, (0, y256)), (0, (3, 0)), (1, (0, a1)), (2, (0, a2))]) hC dX11_drawAnswer_142 (by decide) rfl ?_
        refine pm_aload_n hC 9 (by decide) dX11_drawAnswer_144 rfl ?_
        have e363 : V346 0 3 = 4 := hV350.one 0 3 (by decide) (by decide) rfl
        refine pm_getf (v := 4) hC 0 fl_X11_24 rfl rfl (by decide) rfl e363 dX11_drawAnswer_145 ?_
        refine pm_iload hC 3 dX11_drawAnswer_148 rfl ?_
        refine pm_iload hC 2 dX11_drawAnswer_150 rfl ?_
        refine pm_iload hC 4 dX11_drawAnswer_152 rfl ?_
        refine pm_iload hC 1 dX11_drawAnswer_154 rfl ?_
        refine pm_iload hC 0 dX11_drawAnswer_156 rfl ?_
        refine pm_callV (ci := 7) (as := [(0, w306), (0, ((y279 * 10) + y289)), (0, (y299 - 99)), (0, y343), (0, 0)]) (st := []) hC 4 (c_X7_addAnswer_4 w306 ((y279 * 10) + y289) (y299 - 99) y343 0 ⟨by omega, by omega⟩ ⟨by omega, by omega⟩ ⟨by omega, by omega⟩ ⟨by omega, by omega⟩ ⟨by decide, by decide⟩ (by omega)) lm_X11_236 li_X7_addAnswer (by decide) (by decide) rfl rfl rfl (by decide) rfl rfl (Nat.le_of_ble_eq_true rfl) ⟨Nat.le_refl _, Or.inl rfl⟩ dX11_drawAnswer_158 ⟨rfl, hV350⟩ (fun r364 V365 hp366 => ?_)
        obtain ⟨rfl, hV367, hF368⟩ := hp366
        change pm_J X 161 [(11, (0, 0)), (10, (0, y343)), (9, (0, ((y279 * 10) + y289))), (8, (0, w306)), (7, (0, (y299 - 99))), (6, (0, y289)), (5, (0, y279)), (4, (0, y269)), (3, (0, y256)), (0, (3, 0)), (1, (0, a1)), (2, (0, a2))] [] 118 V365
        have hF369 := pm_fr.tr hF352 hF368 (by decide)
        have e370 : V365 51 0 = y250 := by rw [hF368 51 (by decide)]; exact e353
        have e371 : V365 45 0 = y263 := by rw [hF368 45 (by decide)]; exact e354
        have e372 : V365 73 14 = y326 := by rw [hF368 73 (by decide)]; exact e355
        have e373 : V365 0 5 = 73 := by rw [hF368 0 (by decide)]; exact e356
        have e374 : V365 0 3 = 4 := by rw [hF368 0 (by decide)]; exact e363
        exact pm_vret hC hR ⟨rfl, hV367, hF369⟩ dX11_drawAnswer_161
      · skip
        refine pm_iconst (v := 1) hC dX11_drawAnswer_137 ?_
        refine pm_goto (tgt := 142) hC dX11_drawAnswer_138 (by decide) ?_
        refine pm_istore (lv' := [(11, (0, 1)), (10, (0, y343)), (9, (0, ((y279 * 10) + y289))), (8, (0, w306)), (7, (0, (y299 - 99))), (6, (0, y289)), (5, (0, y279)), (4, (0, y269)), (3, (0, y256)), (0, (3, 0)), (1, (0, a1)), (2, (0, a2))]) hC dX11_drawAnswer_142 (by decide) rfl ?_
        refine pm_aload_n hC 9 (by decide) dX11_drawAnswer_144 rfl ?_
        have e375 : V346 0 3 = 4 := hV350.one 0 3 (by decide) (by decide) rfl
        refine pm_getf (v := 4) hC 0 fl_X11_24 rfl rfl (by decide) rfl e375 dX11_drawAnswer_145 ?_
        refine pm_iload hC 3 dX11_drawAnswer_148 rfl ?_
        refine pm_iload hC 2 dX11_drawAnswer_150 rfl ?_
        refine pm_iload hC 4 dX11_drawAnswer_152 rfl ?_
        refine pm_iload hC 1 dX11_drawAnswer_154 rfl ?_
        refine pm_iload hC 0 dX11_drawAnswer_156 rfl ?_
        refine pm_callV (ci := 7) (as := [(0, w306), (0, ((y279 * 10) + y289)), (0, (y299 - 99)), (0, y343), (0, 1)]) (st := []) hC 4 (c_X7_addAnswer_4 w306 ((y279 * 10) + y289) (y299 - 99) y343 1 ⟨by omega, by omega⟩ ⟨by omega, by omega⟩ ⟨by omega, by omega⟩ ⟨by omega, by omega⟩ ⟨by decide, by decide⟩ (by omega)) lm_X11_236 li_X7_addAnswer (by decide) (by decide) rfl rfl rfl (by decide) rfl rfl (Nat.le_of_ble_eq_true rfl) ⟨Nat.le_refl _, Or.inl rfl⟩ dX11_drawAnswer_158 ⟨rfl, hV350⟩ (fun r376 V377 hp378 => ?_)
        obtain ⟨rfl, hV379, hF380⟩ := hp378
        change pm_J X 161 [(11, (0, 1)), (10, (0, y343)), (9, (0, ((y279 * 10) + y289))), (8, (0, w306)), (7, (0, (y299 - 99))), (6, (0, y289)), (5, (0, y279)), (4, (0, y269)), (3, (0, y256)), (0, (3, 0)), (1, (0, a1)), (2, (0, a2))] [] 118 V377
        have hF381 := pm_fr.tr hF352 hF380 (by decide)
        have e382 : V377 51 0 = y250 := by rw [hF380 51 (by decide)]; exact e353
        have e383 : V377 45 0 = y263 := by rw [hF380 45 (by decide)]; exact e354
        have e384 : V377 73 14 = y326 := by rw [hF380 73 (by decide)]; exact e355
        have e385 : V377 0 5 = 73 := by rw [hF380 0 (by decide)]; exact e356
        have e386 : V377 0 3 = 4 := by rw [hF380 0 (by decide)]; exact e375
        exact pm_vret hC hR ⟨rfl, hV379, hF381⟩ dX11_drawAnswer_161
    · skip
      refine pm_getf (v := 51) hC 0 fl_X11_35 rfl rfl (by decide) rfl e262 dX11_drawAnswer_15 ?_
      refine pm_getf (v := y250) hC 51 fl_X11_136 rfl rfl (by decide) rfl e261 dX11_drawAnswer_18 ?_
      refine pm_i2l hC ⟨by omega, by omega⟩ dX11_drawAnswer_21 ?_
      refine pm_callV (ci := 11) (as := [(1, y250)]) (st := []) hC 0 (c_X11_lotBelow_0 y250 ⟨by omega, by omega⟩) lm_X11_392 li_X11_lotBelow (by decide) (by decide) rfl rfl rfl (by decide) rfl rfl (Nat.le_of_ble_eq_true rfl) ⟨Nat.le_refl _, Or.inl rfl⟩ dX11_drawAnswer_22 ⟨rfl, hV258⟩ (fun r387 V388 hp389 => ?_)
      obtain ⟨y390, rfl, b391, hV392, hF393⟩ := hp389
      change pm_J X 25 [(3, (0, y256)), (0, (3, 0)), (1, (0, a1)), (2, (0, a2))] [(0, y390)] 118 V388
      have hF394 := pm_fr.tr hF260 hF393 (by decide)
      have e395 : V388 51 0 = y250 := by rw [hF393 51 (by decide)]; exact e261
      refine pm_istore (lv' := [(4, (0, y390)), (3, (0, y256)), (0, (3, 0)), (1, (0, a1)), (2, (0, a2))]) hC dX11_drawAnswer_25 (by decide) rfl ?_
      refine pm_aload_n hC 2 (by decide) dX11_drawAnswer_27 rfl ?_
      refine pm_ldc2 (v := 10) hC 5097 dX11_drawAnswer_28 (by decide +kernel) ?_
      refine pm_callV (ci := 11) (as := [(1, 10)]) (st := []) hC 0 (c_X11_lotBelow_0 10 ⟨by decide, by decide⟩) lm_X11_392 li_X11_lotBelow (by decide) (by decide) rfl rfl rfl (by decide) rfl rfl (Nat.le_of_ble_eq_true rfl) ⟨Nat.le_refl _, Or.inl rfl⟩ dX11_drawAnswer_31 ⟨rfl, hV392⟩ (fun r396 V397 hp398 => ?_)
      obtain ⟨y399, rfl, b400, hV401, hF402⟩ := hp398
      change pm_J X 34 [(4, (0, y390)), (3, (0, y256)), (0, (3, 0)), (1, (0, a1)), (2, (0, a2))] [(0, y399)] 118 V397
      have hF403 := pm_fr.tr hF394 hF402 (by decide)
      have e404 : V397 51 0 = y250 := by rw [hF402 51 (by decide)]; exact e395
      refine pm_istore (lv' := [(5, (0, y399)), (4, (0, y390)), (3, (0, y256)), (0, (3, 0)), (1, (0, a1)), (2, (0, a2))]) hC dX11_drawAnswer_34 (by decide) rfl ?_
      refine pm_aload_n hC 3 (by decide) dX11_drawAnswer_36 rfl ?_
      refine pm_ldc2 (v := 10) hC 5097 dX11_drawAnswer_37 (by decide +kernel) ?_
      refine pm_callV (ci := 11) (as := [(1, 10)]) (st := []) hC 0 (c_X11_lotBelow_0 10 ⟨by decide, by decide⟩) lm_X11_392 li_X11_lotBelow (by decide) (by decide) rfl rfl rfl (by decide) rfl rfl (Nat.le_of_ble_eq_true rfl) ⟨Nat.le_refl _, Or.inl rfl⟩ dX11_drawAnswer_40 ⟨rfl, hV401⟩ (fun r405 V406 hp407 => ?_)
      obtain ⟨y408, rfl, b409, hV410, hF411⟩ := hp407
      change pm_J X 43 [(5, (0, y399)), (4, (0, y390)), (3, (0, y256)), (0, (3, 0)), (1, (0, a1)), (2, (0, a2))] [(0, y408)] 118 V406
      have hF412 := pm_fr.tr hF403 hF411 (by decide)
      have e413 : V406 51 0 = y250 := by rw [hF411 51 (by decide)]; exact e404
      refine pm_istore (lv' := [(6, (0, y408)), (5, (0, y399)), (4, (0, y390)), (3, (0, y256)), (0, (3, 0)), (1, (0, a1)), (2, (0, a2))]) hC dX11_drawAnswer_43 (by decide) rfl ?_
      refine pm_aload_n hC 4 (by decide) dX11_drawAnswer_45 rfl ?_
      refine pm_ldc2 (v := 199) hC 5098 dX11_drawAnswer_46 (by decide +kernel) ?_
      refine pm_callV (ci := 11) (as := [(1, 199)]) (st := []) hC 0 (c_X11_lotBelow_0 199 ⟨by decide, by decide⟩) lm_X11_392 li_X11_lotBelow (by decide) (by decide) rfl rfl rfl (by decide) rfl rfl (Nat.le_of_ble_eq_true rfl) ⟨Nat.le_refl _, Or.inl rfl⟩ dX11_drawAnswer_49 ⟨rfl, hV410⟩ (fun r414 V415 hp416 => ?_)
      obtain ⟨y417, rfl, b418, hV419, hF420⟩ := hp416
      change pm_J X 52 [(6, (0, y408)), (5, (0, y399)), (4, (0, y390)), (3, (0, y256)), (0, (3, 0)), (1, (0, a1)), (2, (0, a2))] [(0, y417)] 118 V415
      have hF421 := pm_fr.tr hF412 hF420 (by decide)
      have e422 : V415 51 0 = y250 := by rw [hF420 51 (by decide)]; exact e413
      refine pm_bipush (v := 99) hC dX11_drawAnswer_52 (by decide) ?_
      refine pm_isub hC dX11_drawAnswer_54 ?_
      refine pm_istore (lv' := [(7, (0, (y417 - 99))), (6, (0, y408)), (5, (0, y399)), (4, (0, y390)), (3, (0, y256)), (0, (3, 0)), (1, (0, a1)), (2, (0, a2))]) hC dX11_drawAnswer_55 (by decide) rfl ?_
      refine pm_iload_n hC 7 dX11_drawAnswer_57 rfl ?_
      refine pm_bipush (v := 100) hC dX11_drawAnswer_58 (by decide) ?_
      refine pm_imul hC dX11_drawAnswer_60 ?_
      refine pm_iload_n hC 4 dX11_drawAnswer_61 rfl ?_
      refine pm_bipush (v := 10) hC dX11_drawAnswer_62 (by decide) ?_
      refine pm_imul hC dX11_drawAnswer_64 ?_
      refine pm_iadd hC dX11_drawAnswer_65 ?_
      refine pm_iload hC 3 dX11_drawAnswer_66 rfl ?_
      refine pm_iadd hC dX11_drawAnswer_68 ?_
      have hw424 := pm_dig3 (p := a2) (v := y256) (f := y390) ⟨by omega, by omega⟩ ⟨by omega, by omega⟩ ⟨by omega, by omega⟩
      generalize (((a2 * 100) + (y256 * 10)) + y390) = w423 at hw424 ⊢
      refine pm_istore (lv' := [(8, (0, w423)), (7, (0, (y417 - 99))), (6, (0, y408)), (5, (0, y399)), (4, (0, y390)), (3, (0, y256)), (0, (3, 0)), (1, (0, a1)), (2, (0, a2))]) hC dX11_drawAnswer_69 (by decide) rfl ?_
      refine pm_iload hC 3 dX11_drawAnswer_71 rfl ?_
      refine pm_bipush (v := 10) hC dX11_drawAnswer_73 (by decide) ?_
      refine pm_imul hC dX11_drawAnswer_75 ?_
      refine pm_iload hC 2 dX11_drawAnswer_76 rfl ?_
      refine pm_iadd hC dX11_drawAnswer_78 ?_
      refine pm_istore (lv' := [(9, (0, ((y399 * 10) + y408))), (8, (0, w423)), (7, (0, (y417 - 99))), (6, (0, y408)), (5, (0, y399)), (4, (0, y390)), (3, (0, y256)), (0, (3, 0)), (1, (0, a1)), (2, (0, a2))]) hC dX11_drawAnswer_79 (by decide) rfl ?_
      refine pm_aload_n hC 7 (by decide) dX11_drawAnswer_81 rfl ?_
      refine pm_iload hC 1 dX11_drawAnswer_82 rfl ?_
      refine pm_iload hC 0 dX11_drawAnswer_84 rfl ?_
      refine pm_iload hC 2 dX11_drawAnswer_86 rfl ?_
      refine pm_callV (ci := 11) (as := [(0, w423), (0, ((y399 * 10) + y408)), (0, (y417 - 99))]) (st := []) hC 0 (c_X11_pose_0 w423 ((y399 * 10) + y408) (y417 - 99) ⟨by omega, by omega⟩ ⟨by omega, by omega⟩ ⟨by omega, by omega⟩ (by omega)) lm_X11_229 li_X11_pose (by decide) (by decide) rfl rfl rfl (by decide) rfl rfl (Nat.le_of_ble_eq_true rfl) ⟨Nat.le_refl _, Or.inl rfl⟩ dX11_drawAnswer_88 ⟨rfl, hV419⟩ (fun r425 V426 hp427 => ?_)
      obtain ⟨rfl, hV428, hF429⟩ := hp427
      change pm_J X 91 [(9, (0, ((y399 * 10) + y408))), (8, (0, w423)), (7, (0, (y417 - 99))), (6, (0, y408)), (5, (0, y399)), (4, (0, y390)), (3, (0, y256)), (0, (3, 0)), (1, (0, a1)), (2, (0, a2))] [] 118 V426
      have hF430 := pm_fr.tr hF421 hF429 (by decide)
      have e431 : V426 51 0 = y250 := by rw [hF429 51 (by decide)]; exact e422
      refine pm_aload_n hC 7 (by decide) dX11_drawAnswer_91 rfl ?_
      have e432 : V426 0 5 = 73 := hV428.one 0 5 (by decide) (by decide) rfl
      refine pm_getf (v := 73) hC 0 fl_X11_75 rfl rfl (by decide) rfl e432 dX11_drawAnswer_92 ?_
      refine pm_iload_n hC 8 dX11_drawAnswer_95 rfl ?_
      refine pm_callV (ci := 10) (as := [(0, a1)]) (st := []) hC 73 (c_X10_weigh_73 a1 ⟨by omega, by omega⟩) lm_X11_294 li_X10_weigh (by decide) (by decide) rfl rfl rfl (by decide) rfl rfl (Nat.le_of_ble_eq_true rfl) ⟨Nat.le_refl _, Or.inl rfl⟩ dX11_drawAnswer_96 ⟨rfl, hV428⟩ (fun r433 V434 hp435 => ?_)
      obtain ⟨rfl, hV436, hF437⟩ := hp435
      change pm_J X 99 [(9, (0, ((y399 * 10) + y408))), (8, (0, w423)), (7, (0, (y417 - 99))), (6, (0, y408)), (5, (0, y399)), (4, (0, y390)), (3, (0, y256)), (0, (3, 0)), (1, (0, a1)), (2, (0, a2))] [] 118 V434
      have hF438 := pm_fr.tr hF430 hF437 (by decide)
      have e439 : V434 51 0 = y250 := by rw [hF437 51 (by decide)]; exact e431
      have e440 : V434 0 5 = 73 := by rw [hF437 0 (by decide)]; exact e432
      refine pm_aload_n hC 7 (by decide) dX11_drawAnswer_99 rfl ?_
      refine pm_getf (v := 73) hC 0 fl_X11_75 rfl rfl (by decide) rfl e440 dX11_drawAnswer_100 ?_
      refine pm_aload_n hC 7 (by decide) dX11_drawAnswer_103 rfl ?_
      refine pm_aload_n hC 7 (by decide) dX11_drawAnswer_104 rfl ?_
      refine pm_getf (v := 73) hC 0 fl_X11_75 rfl rfl (by decide) rfl e440 dX11_drawAnswer_105 ?_
      obtain ⟨y441, e442⟩ : ∃ y, V434 73 14 = y := ⟨_, rfl⟩
      have b443 := hV436.get 73 14 (lo := (-9223372036854775808)) (hi := 9223372036854775807) (by decide) (by decide) rfl
      rw [e442] at b443
      refine pm_getf (v := y441) hC 73 fl_X11_205 rfl rfl (by decide) rfl e442 dX11_drawAnswer_108 ?_
      refine pm_callV (ci := 11) (as := [(1, y441)]) (st := [(3, 73)]) hC 0 (c_X11_lotBelow_0 y441 ⟨by omega, by omega⟩) lm_X11_392 li_X11_lotBelow (by decide) (by decide) rfl rfl rfl (by decide) rfl rfl (Nat.le_of_ble_eq_true rfl) ⟨Nat.le_refl _, Or.inl rfl⟩ dX11_drawAnswer_111 ⟨rfl, hV436⟩ (fun r444 V445 hp446 => ?_)
      obtain ⟨y447, rfl, b448, hV449, hF450⟩ := hp446
      change pm_J X 114 [(9, (0, ((y399 * 10) + y408))), (8, (0, w423)), (7, (0, (y417 - 99))), (6, (0, y408)), (5, (0, y399)), (4, (0, y390)), (3, (0, y256)), (0, (3, 0)), (1, (0, a1)), (2, (0, a2))] [(0, y447), (3, 73)] 118 V445
      have hF451 := pm_fr.tr hF438 hF450 (by decide)
      have e452 : V445 51 0 = y250 := by rw [hF450 51 (by decide)]; exact e439
      have e453 : V445 73 14 = y441 := by rw [hF450 73 (by decide)]; exact e442
      refine pm_i2l hC ⟨by omega, by omega⟩ dX11_drawAnswer_114 ?_
      refine pm_callV (ci := 10) (as := [(1, y447)]) (st := []) hC 73 (c_X10_saidAt_73 y447 ⟨by omega, by omega⟩) lm_X11_400 li_X10_saidAt (by decide) (by decide) rfl rfl rfl (by decide) rfl rfl (Nat.le_of_ble_eq_true rfl) ⟨Nat.le_refl _, Or.inl rfl⟩ dX11_drawAnswer_115 ⟨rfl, hV449⟩ (fun r454 V455 hp456 => ?_)
      obtain ⟨y457, rfl, b458, rfl⟩ := hp456
      change pm_J X 118 [(9, (0, ((y399 * 10) + y408))), (8, (0, w423)), (7, (0, (y417 - 99))), (6, (0, y408)), (5, (0, y399)), (4, (0, y390)), (3, (0, y256)), (0, (3, 0)), (1, (0, a1)), (2, (0, a2))] [(0, y457)] 118 V445
      refine pm_istore (lv' := [(10, (0, y457)), (9, (0, ((y399 * 10) + y408))), (8, (0, w423)), (7, (0, (y417 - 99))), (6, (0, y408)), (5, (0, y399)), (4, (0, y390)), (3, (0, y256)), (0, (3, 0)), (1, (0, a1)), (2, (0, a2))]) hC dX11_drawAnswer_118 (by decide) rfl ?_
      refine pm_aload_n hC 8 (by decide) dX11_drawAnswer_120 rfl ?_
      refine pm_ldc2 (v := 1000) hC 4082 dX11_drawAnswer_121 (by decide +kernel) ?_
      refine pm_callV (ci := 11) (as := [(1, 1000)]) (st := []) hC 0 (c_X11_lotBelow_0 1000 ⟨by decide, by decide⟩) lm_X11_392 li_X11_lotBelow (by decide) (by decide) rfl rfl rfl (by decide) rfl rfl (Nat.le_of_ble_eq_true rfl) ⟨Nat.le_refl _, Or.inl rfl⟩ dX11_drawAnswer_124 ⟨rfl, hV449⟩ (fun r459 V460 hp461 => ?_)
      obtain ⟨y462, rfl, b463, hV464, hF465⟩ := hp461
      change pm_J X 127 [(10, (0, y457)), (9, (0, ((y399 * 10) + y408))), (8, (0, w423)), (7, (0, (y417 - 99))), (6, (0, y408)), (5, (0, y399)), (4, (0, y390)), (3, (0, y256)), (0, (3, 0)), (1, (0, a1)), (2, (0, a2))] [(0, y462)] 118 V460
      have hF466 := pm_fr.tr hF451 hF465 (by decide)
      have e467 : V460 51 0 = y250 := by rw [hF465 51 (by decide)]; exact e452
      have e468 : V460 73 14 = y441 := by rw [hF465 73 (by decide)]; exact e453
      refine pm_aload_n hC 8 (by decide) dX11_drawAnswer_127 rfl ?_
      have e469 : V460 0 5 = 73 := hV464.one 0 5 (by decide) (by decide) rfl
      refine pm_getf (v := 73) hC 0 fl_X11_75 rfl rfl (by decide) rfl e469 dX11_drawAnswer_128 ?_
      refine pm_callV (ci := 10) (as := []) (st := [(0, y462)]) hC 73 c_X10_chanceNoticed_73 lm_X11_233 li_X10_chanceNoticed (by decide) (by decide) rfl rfl rfl (by decide) rfl rfl (Nat.le_of_ble_eq_true rfl) ⟨Nat.le_refl _, Or.inl rfl⟩ dX11_drawAnswer_131 ⟨rfl, hV464⟩ (fun r470 V471 hp472 => ?_)
      obtain ⟨y473, rfl, b474, rfl⟩ := hp472
      change pm_J X 134 [(10, (0, y457)), (9, (0, ((y399 * 10) + y408))), (8, (0, w423)), (7, (0, (y417 - 99))), (6, (0, y408)), (5, (0, y399)), (4, (0, y390)), (3, (0, y256)), (0, (3, 0)), (1, (0, a1)), (2, (0, a2))] [(0, y473), (0, y462)] 118 V460
      refine pm_icmp_ge (tgt := 141) hC ⟨by omega, by omega⟩ ⟨by omega, by omega⟩ dX11_drawAnswer_134 (by decide) (fun c475 => ?_) (fun c475 => ?_)
      · skip
        refine pm_iconst (v := 0) hC dX11_drawAnswer_141 ?_
        refine pm_istore (lv' := [(11, (0, 0)), (10, (0, y457)), (9, (0, ((y399 * 10) + y408))), (8, (0, w423)), (7, (0, (y417 - 99))), (6, (0, y408)), (5, (0, y399)), (4, (0, y390)), (3, (0, y256)), (0, (3, 0)), (1, (0, a1)), (2, (0, a2))]) hC dX11_drawAnswer_142 (by decide) rfl ?_
        refine pm_aload_n hC 9 (by decide) dX11_drawAnswer_144 rfl ?_
        have e476 : V460 0 3 = 4 := hV464.one 0 3 (by decide) (by decide) rfl
        refine pm_getf (v := 4) hC 0 fl_X11_24 rfl rfl (by decide) rfl e476 dX11_drawAnswer_145 ?_
        refine pm_iload hC 3 dX11_drawAnswer_148 rfl ?_
        refine pm_iload hC 2 dX11_drawAnswer_150 rfl ?_
        refine pm_iload hC 4 dX11_drawAnswer_152 rfl ?_
        refine pm_iload hC 1 dX11_drawAnswer_154 rfl ?_
        refine pm_iload hC 0 dX11_drawAnswer_156 rfl ?_
        refine pm_callV (ci := 7) (as := [(0, w423), (0, ((y399 * 10) + y408)), (0, (y417 - 99)), (0, y457), (0, 0)]) (st := []) hC 4 (c_X7_addAnswer_4 w423 ((y399 * 10) + y408) (y417 - 99) y457 0 ⟨by omega, by omega⟩ ⟨by omega, by omega⟩ ⟨by omega, by omega⟩ ⟨by omega, by omega⟩ ⟨by decide, by decide⟩ (by omega)) lm_X11_236 li_X7_addAnswer (by decide) (by decide) rfl rfl rfl (by decide) rfl rfl (Nat.le_of_ble_eq_true rfl) ⟨Nat.le_refl _, Or.inl rfl⟩ dX11_drawAnswer_158 ⟨rfl, hV464⟩ (fun r477 V478 hp479 => ?_)
        obtain ⟨rfl, hV480, hF481⟩ := hp479
        change pm_J X 161 [(11, (0, 0)), (10, (0, y457)), (9, (0, ((y399 * 10) + y408))), (8, (0, w423)), (7, (0, (y417 - 99))), (6, (0, y408)), (5, (0, y399)), (4, (0, y390)), (3, (0, y256)), (0, (3, 0)), (1, (0, a1)), (2, (0, a2))] [] 118 V478
        have hF482 := pm_fr.tr hF466 hF481 (by decide)
        have e483 : V478 51 0 = y250 := by rw [hF481 51 (by decide)]; exact e467
        have e484 : V478 73 14 = y441 := by rw [hF481 73 (by decide)]; exact e468
        have e485 : V478 0 5 = 73 := by rw [hF481 0 (by decide)]; exact e469
        have e486 : V478 0 3 = 4 := by rw [hF481 0 (by decide)]; exact e476
        exact pm_vret hC hR ⟨rfl, hV480, hF482⟩ dX11_drawAnswer_161
      · skip
        refine pm_iconst (v := 1) hC dX11_drawAnswer_137 ?_
        refine pm_goto (tgt := 142) hC dX11_drawAnswer_138 (by decide) ?_
        refine pm_istore (lv' := [(11, (0, 1)), (10, (0, y457)), (9, (0, ((y399 * 10) + y408))), (8, (0, w423)), (7, (0, (y417 - 99))), (6, (0, y408)), (5, (0, y399)), (4, (0, y390)), (3, (0, y256)), (0, (3, 0)), (1, (0, a1)), (2, (0, a2))]) hC dX11_drawAnswer_142 (by decide) rfl ?_
        refine pm_aload_n hC 9 (by decide) dX11_drawAnswer_144 rfl ?_
        have e487 : V460 0 3 = 4 := hV464.one 0 3 (by decide) (by decide) rfl
        refine pm_getf (v := 4) hC 0 fl_X11_24 rfl rfl (by decide) rfl e487 dX11_drawAnswer_145 ?_
        refine pm_iload hC 3 dX11_drawAnswer_148 rfl ?_
        refine pm_iload hC 2 dX11_drawAnswer_150 rfl ?_
        refine pm_iload hC 4 dX11_drawAnswer_152 rfl ?_
        refine pm_iload hC 1 dX11_drawAnswer_154 rfl ?_
        refine pm_iload hC 0 dX11_drawAnswer_156 rfl ?_
        refine pm_callV (ci := 7) (as := [(0, w423), (0, ((y399 * 10) + y408)), (0, (y417 - 99)), (0, y457), (0, 1)]) (st := []) hC 4 (c_X7_addAnswer_4 w423 ((y399 * 10) + y408) (y417 - 99) y457 1 ⟨by omega, by omega⟩ ⟨by omega, by omega⟩ ⟨by omega, by omega⟩ ⟨by omega, by omega⟩ ⟨by decide, by decide⟩ (by omega)) lm_X11_236 li_X7_addAnswer (by decide) (by decide) rfl rfl rfl (by decide) rfl rfl (Nat.le_of_ble_eq_true rfl) ⟨Nat.le_refl _, Or.inl rfl⟩ dX11_drawAnswer_158 ⟨rfl, hV464⟩ (fun r488 V489 hp490 => ?_)
        obtain ⟨rfl, hV491, hF492⟩ := hp490
        change pm_J X 161 [(11, (0, 1)), (10, (0, y457)), (9, (0, ((y399 * 10) + y408))), (8, (0, w423)), (7, (0, (y417 - 99))), (6, (0, y408)), (5, (0, y399)), (4, (0, y390)), (3, (0, y256)), (0, (3, 0)), (1, (0, a1)), (2, (0, a2))] [] 118 V489
        have hF493 := pm_fr.tr hF466 hF492 (by decide)
        have e494 : V489 51 0 = y250 := by rw [hF492 51 (by decide)]; exact e467
        have e495 : V489 73 14 = y441 := by rw [hF492 73 (by decide)]; exact e468
        have e496 : V489 0 5 = 73 := by rw [hF492 0 (by decide)]; exact e469
        have e497 : V489 0 3 = 4 := by rw [hF492 0 (by decide)]; exact e487
        exact pm_vret hC hR ⟨rfl, hV491, hF493⟩ dX11_drawAnswer_161
set_option maxHeartbeats 4000000 in
set_option maxRecDepth 100000 in
theorem c_X11_draw_0 (a1 a2 a3 a4 : Int) (h0 : (-2147483648) ≤ a1 ∧ a1 ≤ 2147483647) (h1 : (-2147483648) ≤ a2 ∧ a2 ≤ 2147483647) (h2 : (-2147483648) ≤ a3 ∧ a3 ≤ 2147483647) (h3 : (-2147483648) ≤ a4 ∧ a4 ≤ 2147483647) : pm_K 6 yX11_draw cX11_draw 7 (some .int) (fun av V => av = [(3, 0), (0, a1), (0, a2), (0, a3), (0, a4)] ∧ pm_ok 0 90 V) (fun _ V r V' => ∃ y, r = some (0, y) ∧ ((-1) ≤ y ∧ y ≤ 60) ∧ pm_ok 0 90 V' ∧ pm_fr [0, 4, 9, 10, 11, 12, 13, 73, 74, 75, 76, 77] V V') := by
  refine pm_MT.of (by decide) ⟨Nat.le_refl _, by decide⟩ (fun av V h => by rw [h.1]; exact (by decide : pm_words [(3, 0), (0, 0), (0, 0), (0, 0), (0, 0)] ≤ 7)) ?_
  rintro X av V0 hC - hR ⟨rfl, hV0⟩
  change pm_J X 0 [(0, (3, 0)), (1, (0, a1)), (2, (0, a2)), (3, (0, a3)), (4, (0, a4))] [] 118 V0
  refine pm_iload_n hC 1 dX11_draw_0 rfl ?_
  refine pm_callS (as := [(0, a1)]) (st := []) hC (c_X11_isLaw a1 ⟨by omega, by omega⟩) lm_X11_262 ls_X11_isLaw (by decide) (by decide) rfl rfl (Nat.le_of_ble_eq_true rfl) ⟨Nat.le_refl _, Or.inl rfl⟩ dX11_draw_1 ⟨rfl, hV0⟩ (fun r1 V2 hp3 => ?_)
  obtain ⟨y4, rfl, b5, rfl⟩ := hp3
  change pm_J X 4 [(0, (3, 0)), (1, (0, a1)), (2, (0, a2)), (3, (0, a3)), (4, (0, a4))] [(0, y4)] 118 V0
  refine pm_if_eq (tgt := 30) hC ⟨by omega, by omega⟩ dX11_draw_4 (by decide) (fun c6 => ?_) (fun c6 => ?_)
  · skip
    refine pm_iconst (v := 0) hC dX11_draw_30 ?_
    refine pm_istore (lv' := [(5, (0, 0)), (0, (3, 0)), (1, (0, a1)), (2, (0, a2)), (3, (0, a3)), (4, (0, a4))]) hC dX11_draw_31 (by decide) rfl ?_
    refine pm_iload hC 0 dX11_draw_33 rfl ?_
    refine pm_if_eq (tgt := 66) hC ⟨by decide, by decide⟩ dX11_draw_35 (by decide) (fun c7 => ?_) (fun c7 => ?_)
    · skip
      refine pm_iconst (v := (-1)) hC dX11_draw_66 ?_
      exact pm_iret hC hR pm_nar0 ⟨(-1), rfl, ⟨by omega, by omega⟩, hV0, (pm_fr.rf (ws := [0, 4, 9, 10, 11, 12, 13, 73, 74, 75, 76, 77]) (V := V0))⟩ dX11_draw_67
    · skip
      exfalso; omega
  · skip
    refine pm_aload_n hC 0 (by decide) dX11_draw_7 rfl ?_
    refine pm_iload_n hC 2 dX11_draw_8 rfl ?_
    refine pm_callV (ci := 11) (as := [(0, a2)]) (st := []) hC 0 (c_X11_isPerson_0 a2 ⟨by omega, by omega⟩) lm_X11_183 li_X11_isPerson (by decide) (by decide) rfl rfl rfl (by decide) rfl rfl (Nat.le_of_ble_eq_true rfl) ⟨Nat.le_refl _, Or.inl rfl⟩ dX11_draw_9 ⟨rfl, hV0⟩ (fun r8 V9 hp10 => ?_)
    obtain ⟨y11, rfl, b12, rfl⟩ := hp10
    change pm_J X 12 [(0, (3, 0)), (1, (0, a1)), (2, (0, a2)), (3, (0, a3)), (4, (0, a4))] [(0, y11)] 118 V0
    refine pm_if_eq (tgt := 30) hC ⟨by omega, by omega⟩ dX11_draw_12 (by decide) (fun c13 => ?_) (fun c13 => ?_)
    · skip
      refine pm_iconst (v := 0) hC dX11_draw_30 ?_
      refine pm_istore (lv' := [(5, (0, 0)), (0, (3, 0)), (1, (0, a1)), (2, (0, a2)), (3, (0, a3)), (4, (0, a4))]) hC dX11_draw_31 (by decide) rfl ?_
      refine pm_iload hC 0 dX11_draw_33 rfl ?_
      refine pm_if_eq (tgt := 66) hC ⟨by decide, by decide⟩ dX11_draw_35 (by decide) (fun c14 => ?_) (fun c14 => ?_)
      · skip
        refine pm_iconst (v := (-1)) hC dX11_draw_66 ?_
        exact pm_iret hC hR pm_nar0 ⟨(-1), rfl, ⟨by omega, by omega⟩, hV0, (pm_fr.rf (ws := [0, 4, 9, 10, 11, 12, 13, 73, 74, 75, 76, 77]) (V := V0))⟩ dX11_draw_67
      · skip
        exfalso; omega
    · skip
      refine pm_iload_n hC 3 dX11_draw_15 rfl ?_
      refine pm_if_lt (tgt := 30) hC ⟨by omega, by omega⟩ dX11_draw_16 (by decide) (fun c15 => ?_) (fun c15 => ?_)
      · skip
        refine pm_iconst (v := 0) hC dX11_draw_30 ?_
        refine pm_istore (lv' := [(5, (0, 0)), (0, (3, 0)), (1, (0, a1)), (2, (0, a2)), (3, (0, a3)), (4, (0, a4))]) hC dX11_draw_31 (by decide) rfl ?_
        refine pm_iload hC 0 dX11_draw_33 rfl ?_
        refine pm_if_eq (tgt := 66) hC ⟨by decide, by decide⟩ dX11_draw_35 (by decide) (fun c16 => ?_) (fun c16 => ?_)
        · skip
          refine pm_iconst (v := (-1)) hC dX11_draw_66 ?_
          exact pm_iret hC hR pm_nar0 ⟨(-1), rfl, ⟨by omega, by omega⟩, hV0, (pm_fr.rf (ws := [0, 4, 9, 10, 11, 12, 13, 73, 74, 75, 76, 77]) (V := V0))⟩ dX11_draw_67
        · skip
          exfalso; omega
      · skip
        refine pm_iload_n hC 3 dX11_draw_19 rfl ?_
        refine pm_ldcw (v := 1000000) hC 5084 dX11_draw_20 (by decide +kernel) ?_
        refine pm_icmp_gt (tgt := 30) hC ⟨by omega, by omega⟩ ⟨by decide, by decide⟩ dX11_draw_23 (by decide) (fun c17 => ?_) (fun c17 => ?_)
        · skip
          refine pm_iconst (v := 0) hC dX11_draw_30 ?_
          refine pm_istore (lv' := [(5, (0, 0)), (0, (3, 0)), (1, (0, a1)), (2, (0, a2)), (3, (0, a3)), (4, (0, a4))]) hC dX11_draw_31 (by decide) rfl ?_
          refine pm_iload hC 0 dX11_draw_33 rfl ?_
          refine pm_if_eq (tgt := 66) hC ⟨by decide, by decide⟩ dX11_draw_35 (by decide) (fun c18 => ?_) (fun c18 => ?_)
          · skip
            refine pm_iconst (v := (-1)) hC dX11_draw_66 ?_
            exact pm_iret hC hR pm_nar0 ⟨(-1), rfl, ⟨by omega, by omega⟩, hV0, (pm_fr.rf (ws := [0, 4, 9, 10, 11, 12, 13, 73, 74, 75, 76, 77]) (V := V0))⟩ dX11_draw_67
          · skip
            exfalso; omega
        · skip
          refine pm_iconst (v := 1) hC dX11_draw_26 ?_
          refine pm_goto (tgt := 31) hC dX11_draw_27 (by decide) ?_
          refine pm_istore (lv' := [(5, (0, 1)), (0, (3, 0)), (1, (0, a1)), (2, (0, a2)), (3, (0, a3)), (4, (0, a4))]) hC dX11_draw_31 (by decide) rfl ?_
          refine pm_iload hC 0 dX11_draw_33 rfl ?_
          refine pm_if_eq (tgt := 66) hC ⟨by decide, by decide⟩ dX11_draw_35 (by decide) (fun c19 => ?_) (fun c19 => ?_)
          · skip
            exfalso; omega
          · skip
            refine pm_iload hC 5 dX11_draw_38 rfl ?_
            refine pm_iconst (v := 1) hC dX11_draw_40 ?_
            refine pm_icmp_lt (tgt := 66) hC ⟨by omega, by omega⟩ ⟨by decide, by decide⟩ dX11_draw_41 (by decide) (fun c20 => ?_) (fun c20 => ?_)
            · skip
              refine pm_iconst (v := (-1)) hC dX11_draw_66 ?_
              exact pm_iret hC hR pm_nar0 ⟨(-1), rfl, ⟨by omega, by omega⟩, hV0, (pm_fr.rf (ws := [0, 4, 9, 10, 11, 12, 13, 73, 74, 75, 76, 77]) (V := V0))⟩ dX11_draw_67
            · skip
              refine pm_iload hC 5 dX11_draw_44 rfl ?_
              refine pm_bipush (v := 20) hC dX11_draw_46 (by decide) ?_
              refine pm_icmp_gt (tgt := 66) hC ⟨by omega, by omega⟩ ⟨by decide, by decide⟩ dX11_draw_48 (by decide) (fun c21 => ?_) (fun c21 => ?_)
              · skip
                refine pm_iconst (v := (-1)) hC dX11_draw_66 ?_
                exact pm_iret hC hR pm_nar0 ⟨(-1), rfl, ⟨by omega, by omega⟩, hV0, (pm_fr.rf (ws := [0, 4, 9, 10, 11, 12, 13, 73, 74, 75, 76, 77]) (V := V0))⟩ dX11_draw_67
              · skip
                refine pm_aload_n hC 1 (by decide) dX11_draw_51 rfl ?_
                have e22 : V0 0 3 = 4 := hV0.one 0 3 (by decide) (by decide) rfl
                refine pm_getf (v := 4) hC 0 fl_X11_24 rfl rfl (by decide) rfl e22 dX11_draw_52 ?_
                obtain ⟨y23, e24⟩ : ∃ y, V0 4 6 = y := ⟨_, rfl⟩
                have b25 := hV0.get 4 6 (lo := 0) (hi := 60) (by decide) (by decide) rfl
                rw [e24] at b25
                refine pm_getf (v := y23) hC 4 fl_X11_162 rfl rfl (by decide) rfl e24 dX11_draw_55 ?_
                refine pm_iload hC 5 dX11_draw_58 rfl ?_
                refine pm_iadd hC dX11_draw_60 ?_
                refine pm_bipush (v := 60) hC dX11_draw_61 (by decide) ?_
                refine pm_icmp_le (tgt := 68) hC ⟨by omega, by omega⟩ ⟨by decide, by decide⟩ dX11_draw_63 (by decide) (fun c26 => ?_) (fun c26 => ?_)
                · skip
                  refine pm_aload_n hC 1 (by decide) dX11_draw_68 rfl ?_
                  refine pm_iload_n hC 4 dX11_draw_69 rfl ?_
                  refine pm_i2l hC ⟨by omega, by omega⟩ dX11_draw_70 ?_
                  refine pm_putf hC 0 fl_X11_107 rfl rfl rfl (by decide) rfl trivial dX11_draw_71 ?_
                  refine pm_iconst (v := 0) hC dX11_draw_74 ?_
                  refine pm_istore (lv' := [(6, (0, 0)), (5, (0, 1)), (0, (3, 0)), (1, (0, a1)), (2, (0, a2)), (3, (0, a3)), (4, (0, a4))]) hC dX11_draw_75 (by decide) rfl ?_
                  have hV29 := (hV0.put 0 16 (x := a3) (lo := (-9223372036854775808)) (hi := 9223372036854775807) rfl ⟨by omega, by omega⟩)
                  have hF30 := ((pm_fr.rf (ws := [0, 4, 9, 10, 11, 12, 13, 73, 74, 75, 76, 77]) (V := V0)).up 0 16 a3 rfl)
                  obtain ⟨V27, hv28⟩ : ∃ V, V = (pm_up V0 0 16 a3) := ⟨_, rfl⟩
                  rw [← hv28] at hV29 hF30
                  rw [← hv28]
                  have e31 : V27 0 3 = 4 := by rw [hv28]; exact e22
                  have e32 : V27 4 6 = y23 := by rw [hv28]; exact e24
                  have e33 : V27 0 16 = a3 := by rw [hv28]; rfl
                  have L39 : ∀ (N41 : Nat) (x34 : Int) (V36 : pm_M), (0 ≤ x34 ∧ x34 ≤ 60) → pm_ok 0 90 V36 → pm_fr [0, 4, 9, 10, 11, 12, 13, 73, 74, 75, 76, 77] V0 V36 → (Int.toNat (60 - x34)) = N41 → pm_J X 77 [(0, (3, 0)), (1, (0, a1)), (2, (0, a2)), (3, (0, a3)), (4, (0, a4)), (5, (0, 1)), (6, (0, x34))] [] 118 V36 := by
                    intro N41
                    induction N41 using Nat.strongRecOn with
                    | _ N41 ih42 =>
                    intro x34 V36 b35 hV37 hF38 hm40
                    refine pm_iload hC 6 dX11_draw_77 rfl ?_
                    refine pm_iload hC 4 dX11_draw_79 rfl ?_
                    refine pm_icmp_ge (tgt := 96) hC ⟨by omega, by omega⟩ ⟨by omega, by omega⟩ dX11_draw_81 (by decide) (fun c43 => ?_) (fun c43 => ?_)
                    · skip
                      refine pm_aload_n hC 0 (by decide) dX11_draw_96 rfl ?_
                      have e44 : V36 0 3 = 4 := hV37.one 0 3 (by decide) (by decide) rfl
                      refine pm_getf (v := 4) hC 0 fl_X11_24 rfl rfl (by decide) rfl e44 dX11_draw_97 ?_
                      obtain ⟨y45, e46⟩ : ∃ y, V36 4 6 = y := ⟨_, rfl⟩
                      have b47 := hV37.get 4 6 (lo := 0) (hi := 60) (by decide) (by decide) rfl
                      rw [e46] at b47
                      refine pm_getf (v := y45) hC 4 fl_X11_162 rfl rfl (by decide) rfl e46 dX11_draw_100 ?_
                      exact pm_iret hC hR pm_nar0 ⟨y45, rfl, ⟨by omega, by omega⟩, hV37, hF38⟩ dX11_draw_103
                    · skip
                      refine pm_aload_n hC 0 (by decide) dX11_draw_84 rfl ?_
                      refine pm_iload_n hC 1 dX11_draw_85 rfl ?_
                      refine pm_iload_n hC 2 dX11_draw_86 rfl ?_
                      refine pm_callV (ci := 11) (as := [(0, a1), (0, a2)]) (st := []) hC 0 (c_X11_drawAnswer_0 a1 a2 ⟨by omega, by omega⟩ ⟨by omega, by omega⟩) lm_X11_332 li_X11_drawAnswer (by decide) (by decide) rfl rfl rfl (by decide) rfl rfl (Nat.le_of_ble_eq_true rfl) ⟨Nat.le_refl _, Or.inl rfl⟩ dX11_draw_87 ⟨rfl, hV37⟩ (fun r48 V49 hp50 => ?_)
                      obtain ⟨rfl, hV51, hF52⟩ := hp50
                      change pm_J X 90 [(0, (3, 0)), (1, (0, a1)), (2, (0, a2)), (3, (0, a3)), (4, (0, a4)), (5, (0, 1)), (6, (0, x34))] [] 118 V49
                      have hF53 := pm_fr.tr hF38 hF52 (by decide)
                      obtain ⟨x54, ei55⟩ : ∃ y : Int, x34 + 1 = y := ⟨_, rfl⟩
                      refine pm_iinc (y := x54) (lv' := [(6, (0, x54)), (0, (3, 0)), (1, (0, a1)), (2, (0, a2)), (3, (0, a3)), (4, (0, a4)), (5, (0, 1))]) hC 6 dX11_draw_90 (by decide) rfl ei55 rfl ?_
                      refine pm_goto (tgt := 77) hC dX11_draw_93 (by decide) ?_
                      refine pm_lvsub [1, 2, 3, 4, 5, 6, 0] (lv' := [(0, (3, 0)), (1, (0, a1)), (2, (0, a2)), (3, (0, a3)), (4, (0, a4)), (5, (0, 1)), (6, (0, x54))]) rfl ?_
                      exact ih42 _ (by omega) x54 V49 ⟨by omega, by omega⟩ hV51 hF53 rfl
                  refine pm_lvsub [2, 3, 4, 5, 6, 1, 0] (lv' := [(0, (3, 0)), (1, (0, a1)), (2, (0, a2)), (3, (0, a3)), (4, (0, a4)), (5, (0, 1)), (6, (0, 0))]) rfl ?_
                  exact L39 _ 0 V27 ⟨by decide, by decide⟩ hV29 hF30 rfl
                · skip
                  refine pm_iconst (v := (-1)) hC dX11_draw_66 ?_
                  exact pm_iret hC hR pm_nar0 ⟨(-1), rfl, ⟨by omega, by omega⟩, hV0, (pm_fr.rf (ws := [0, 4, 9, 10, 11, 12, 13, 73, 74, 75, 76, 77]) (V := V0))⟩ dX11_draw_67
