set_option maxHeartbeats 4000000 in
set_option maxRecDepth 100000 in
theorem c_X4_compareExactly_78_84_87 (a1 : Int) (h0 : 0 ≤ a1 ∧ a1 ≤ 60) : pm_K 2 yX4_compareExactly cX4_compareExactly 5 (some .int) (fun av V => av = [(3, 78), (3, 84), (3, 87), (0, a1)] ∧ pm_ok 0 90 V) (fun _ V r V' => ∃ y, r = some (0, y) ∧ ((-1) ≤ y ∧ y ≤ 1) ∧ pm_ok 0 90 V' ∧ pm_fr [79, 80, 81, 82] V V') := by
  refine pm_MT.of (by decide) ⟨Nat.le_refl _, by decide⟩ (fun av V h => by rw [h.1]; exact (by decide : pm_words [(3, 0), (3, 0), (3, 0), (0, 0)] ≤ 5)) ?_
  rintro X av V0 hC - hR ⟨rfl, hV0⟩
  change pm_J X 0 [(0, (3, 78)), (1, (3, 84)), (2, (3, 87)), (3, (0, a1))] [] 118 V0
  refine pm_aload_n hC 0 (by decide) dX4_compareExactly_0 rfl ?_
  have e1 : V0 78 0 = 79 := hV0.one 78 0 (by decide) (by decide) rfl
  refine pm_getf (v := 79) hC 78 fl_X4_10 rfl rfl (by decide) rfl e1 dX4_compareExactly_1 ?_
  refine pm_callV (ci := 1) (as := []) (st := []) hC 79 c_X1_begin_79 lm_X4_62 li_X1_begin (by decide) (by decide) rfl rfl rfl (by decide) rfl rfl (Nat.le_of_ble_eq_true rfl) ⟨Nat.le_refl _, Or.inl rfl⟩ dX4_compareExactly_4 ⟨rfl, hV0⟩ (fun r2 V3 hp4 => ?_)
  obtain ⟨rfl, hV5, hF6⟩ := hp4
  change pm_J X 7 [(0, (3, 78)), (1, (3, 84)), (2, (3, 87)), (3, (0, a1))] [] 118 V3
  have hF7 := pm_fr.tr (pm_fr.rf (ws := [79, 80, 81, 82]) (V := V0)) hF6 (by decide)
  have e8 : V3 78 0 = 79 := by rw [hF6 78 (by decide)]; exact e1
  refine pm_aload_n hC 0 (by decide) dX4_compareExactly_7 rfl ?_
  have e9 : V3 78 1 = 81 := hV5.one 78 1 (by decide) (by decide) rfl
  refine pm_getf (v := 81) hC 78 fl_X4_16 rfl rfl (by decide) rfl e9 dX4_compareExactly_8 ?_
  refine pm_callV (ci := 1) (as := []) (st := []) hC 81 c_X1_begin_81 lm_X4_62 li_X1_begin (by decide) (by decide) rfl rfl rfl (by decide) rfl rfl (Nat.le_of_ble_eq_true rfl) ⟨Nat.le_refl _, Or.inl rfl⟩ dX4_compareExactly_11 ⟨rfl, hV5⟩ (fun r10 V11 hp12 => ?_)
  obtain ⟨rfl, hV13, hF14⟩ := hp12
  change pm_J X 14 [(0, (3, 78)), (1, (3, 84)), (2, (3, 87)), (3, (0, a1))] [] 118 V11
  have hF15 := pm_fr.tr hF7 hF14 (by decide)
  have e16 : V11 78 0 = 79 := by rw [hF14 78 (by decide)]; exact e8
  have e17 : V11 78 1 = 81 := by rw [hF14 78 (by decide)]; exact e9
  refine pm_iconst (v := 0) hC dX4_compareExactly_14 ?_
  refine pm_istore (lv' := [(4, (0, 0)), (0, (3, 78)), (1, (3, 84)), (2, (3, 87)), (3, (0, a1))]) hC dX4_compareExactly_15 (by decide) rfl ?_
  have L25 : ∀ (N27 : Nat) (x18 : Int) (V20 : pm_M), (0 ≤ x18 ∧ x18 ≤ 60) → pm_ok 0 90 V20 → pm_fr [79, 80, 81, 82] V0 V20 → V20 78 0 = 79 → V20 78 1 = 81 → (Int.toNat (60 - x18)) = N27 → pm_J X 17 [(0, (3, 78)), (1, (3, 84)), (2, (3, 87)), (3, (0, a1)), (4, (0, x18))] [] 118 V20 := by
    intro N27
    induction N27 using Nat.strongRecOn with
    | _ N27 ih28 =>
    intro x18 V20 b19 hV21 hF22 e23 e24 hm26
    refine pm_iload hC 4 dX4_compareExactly_17 rfl ?_
    refine pm_iload_n hC 3 dX4_compareExactly_19 rfl ?_
    refine pm_icmp_ge (tgt := 119) hC ⟨by omega, by omega⟩ ⟨by omega, by omega⟩ dX4_compareExactly_20 (by decide) (fun c29 => ?_) (fun c29 => ?_)
    · skip
      refine pm_aload_n hC 0 (by decide) dX4_compareExactly_119 rfl ?_
      refine pm_getf (v := 79) hC 78 fl_X4_10 rfl rfl (by decide) rfl e23 dX4_compareExactly_120 ?_
      refine pm_aload_n hC 0 (by decide) dX4_compareExactly_123 rfl ?_
      refine pm_getf (v := 81) hC 78 fl_X4_16 rfl rfl (by decide) rfl e24 dX4_compareExactly_124 ?_
      refine pm_callV (ci := 1) (as := [(3, 81)]) (st := []) hC 79 c_X1_compareWith_79_81 lm_X4_69 li_X1_compareWith (by decide) (by decide) rfl rfl rfl (by decide) rfl rfl (Nat.le_of_ble_eq_true rfl) ⟨Nat.le_refl _, Or.inl rfl⟩ dX4_compareExactly_127 ⟨rfl, hV21⟩ (fun r30 V31 hp32 => ?_)
      obtain ⟨y33, rfl, b34, rfl⟩ := hp32
      change pm_J X 130 [(0, (3, 78)), (1, (3, 84)), (2, (3, 87)), (3, (0, a1)), (4, (0, x18))] [(0, y33)] 118 V20
      exact pm_iret hC hR pm_nar0 ⟨y33, rfl, ⟨by omega, by omega⟩, hV21, hF22⟩ dX4_compareExactly_130
    · skip
      refine pm_aload_n hC 1 (by decide) dX4_compareExactly_23 rfl ?_
      have e35 : V20 84 1 = 85 := hV21.one 84 1 (by decide) (by decide) rfl
      refine pm_getf (v := 85) hC 84 fl_X4_51 rfl rfl (by decide) rfl e35 dX4_compareExactly_24 ?_
      refine pm_iload hC 4 dX4_compareExactly_27 rfl ?_
      obtain ⟨y36, e37⟩ : ∃ y, V20 85 (x18 : Int).toNat = y := ⟨_, rfl⟩
      have b38 := hV21.get 85 (x18 : Int).toNat (lo := (-9223372036854775808)) (hi := 9223372036854775807) (by decide) (show _ < 60 by omega) rfl
      rw [e37] at b38
      refine pm_laload (len := 60) (v := y36) hC 85 rfl rfl (by decide) ⟨by omega, by omega⟩ (by decide) e37 dX4_compareExactly_29 ?_
      refine pm_aload_n hC 2 (by decide) dX4_compareExactly_30 rfl ?_
      have e39 : V20 87 2 = 89 := hV21.one 87 2 (by decide) (by decide) rfl
      refine pm_getf (v := 89) hC 87 fl_X4_55 rfl rfl (by decide) rfl e39 dX4_compareExactly_31 ?_
      refine pm_iload hC 4 dX4_compareExactly_34 rfl ?_
      obtain ⟨y40, e41⟩ : ∃ y, V20 89 (x18 : Int).toNat = y := ⟨_, rfl⟩
      have b42 := hV21.get 89 (x18 : Int).toNat (lo := (-9223372036854775808)) (hi := 9223372036854775807) (by decide) (show _ < 60 by omega) rfl
      rw [e41] at b42
      refine pm_laload (len := 60) (v := y40) hC 89 rfl rfl (by decide) ⟨by omega, by omega⟩ (by decide) e41 dX4_compareExactly_36 ?_
      refine pm_lmul hC dX4_compareExactly_37 ?_
      refine pm_someL hC (fun y43 b44 => ?_)
      have b44 := And.intro b44.1 b44.2
      refine pm_aload_n hC 2 (by decide) dX4_compareExactly_38 rfl ?_
      have e45 : V20 87 1 = 88 := hV21.one 87 1 (by decide) (by decide) rfl
      refine pm_getf (v := 88) hC 87 fl_X4_51 rfl rfl (by decide) rfl e45 dX4_compareExactly_39 ?_
      refine pm_iload hC 4 dX4_compareExactly_42 rfl ?_
      obtain ⟨y46, e47⟩ : ∃ y, V20 88 (x18 : Int).toNat = y := ⟨_, rfl⟩
      have b48 := hV21.get 88 (x18 : Int).toNat (lo := (-9223372036854775808)) (hi := 9223372036854775807) (by decide) (show _ < 60 by omega) rfl
      rw [e47] at b48
      refine pm_laload (len := 60) (v := y46) hC 88 rfl rfl (by decide) ⟨by omega, by omega⟩ (by decide) e47 dX4_compareExactly_44 ?_
      refine pm_aload_n hC 1 (by decide) dX4_compareExactly_45 rfl ?_
      have e49 : V20 84 2 = 86 := hV21.one 84 2 (by decide) (by decide) rfl
      refine pm_getf (v := 86) hC 84 fl_X4_55 rfl rfl (by decide) rfl e49 dX4_compareExactly_46 ?_
      refine pm_iload hC 4 dX4_compareExactly_49 rfl ?_
      obtain ⟨y50, e51⟩ : ∃ y, V20 86 (x18 : Int).toNat = y := ⟨_, rfl⟩
      have b52 := hV21.get 86 (x18 : Int).toNat (lo := (-9223372036854775808)) (hi := 9223372036854775807) (by decide) (show _ < 60 by omega) rfl
      rw [e51] at b52
      refine pm_laload (len := 60) (v := y50) hC 86 rfl rfl (by decide) ⟨by omega, by omega⟩ (by decide) e51 dX4_compareExactly_51 ?_
      refine pm_lmul hC dX4_compareExactly_52 ?_
      refine pm_someL hC (fun y53 b54 => ?_)
      have b54 := And.intro b54.1 b54.2
      refine pm_lcmp hC ⟨by omega, by omega⟩ ⟨by omega, by omega⟩ dX4_compareExactly_53 (fun y55 b56 => ?_)
      refine pm_if_eq (tgt := 113) hC ⟨by omega, by omega⟩ dX4_compareExactly_54 (by decide) (fun c57 => ?_) (fun c57 => ?_)
      · skip
        obtain ⟨x58, ei59⟩ : ∃ y : Int, x18 + 1 = y := ⟨_, rfl⟩
        refine pm_iinc (y := x58) (lv' := [(4, (0, x58)), (0, (3, 78)), (1, (3, 84)), (2, (3, 87)), (3, (0, a1))]) hC 4 dX4_compareExactly_113 (by decide) rfl ei59 rfl ?_
        refine pm_goto (tgt := 17) hC dX4_compareExactly_116 (by decide) ?_
        refine pm_lvsub [1, 2, 3, 4, 0] (lv' := [(0, (3, 78)), (1, (3, 84)), (2, (3, 87)), (3, (0, a1)), (4, (0, x58))]) rfl ?_
        exact ih28 _ (by omega) x58 V20 ⟨by omega, by omega⟩ hV21 hF22 e23 e24 rfl
      · skip
        refine pm_aload_n hC 0 (by decide) dX4_compareExactly_57 rfl ?_
        refine pm_getf (v := 79) hC 78 fl_X4_10 rfl rfl (by decide) rfl e23 dX4_compareExactly_58 ?_
        refine pm_aload_n hC 1 (by decide) dX4_compareExactly_61 rfl ?_
        refine pm_getf (v := 85) hC 84 fl_X4_51 rfl rfl (by decide) rfl e35 dX4_compareExactly_62 ?_
        refine pm_iload hC 4 dX4_compareExactly_65 rfl ?_
        refine pm_laload (len := 60) (v := y36) hC 85 rfl rfl (by decide) ⟨by omega, by omega⟩ (by decide) e37 dX4_compareExactly_67 ?_
        refine pm_callV (ci := 1) (as := [(1, y36)]) (st := []) hC 79 (c_X1_times_79 y36 ⟨by omega, by omega⟩) lm_X4_65 li_X1_times (by decide) (by decide) rfl rfl rfl (by decide) rfl rfl (Nat.le_of_ble_eq_true rfl) ⟨Nat.le_refl _, Or.inl rfl⟩ dX4_compareExactly_68 ⟨rfl, hV21⟩ (fun r60 V61 hp62 => ?_)
        obtain ⟨rfl, hV63, hF64⟩ := hp62
        change pm_J X 71 [(0, (3, 78)), (1, (3, 84)), (2, (3, 87)), (3, (0, a1)), (4, (0, x18))] [] 118 V61
        have hF65 := pm_fr.tr hF22 hF64 (by decide)
        have e66 : V61 78 0 = 79 := by rw [hF64 78 (by decide)]; exact e23
        have e67 : V61 78 1 = 81 := by rw [hF64 78 (by decide)]; exact e24
        have e68 : V61 84 1 = 85 := by rw [hF64 84 (by decide)]; exact e35
        have e69 : V61 87 2 = 89 := by rw [hF64 87 (by decide)]; exact e39
        have e70 : V61 87 1 = 88 := by rw [hF64 87 (by decide)]; exact e45
        have e71 : V61 84 2 = 86 := by rw [hF64 84 (by decide)]; exact e49
        refine pm_aload_n hC 0 (by decide) dX4_compareExactly_71 rfl ?_
        refine pm_getf (v := 79) hC 78 fl_X4_10 rfl rfl (by decide) rfl e66 dX4_compareExactly_72 ?_
        refine pm_aload_n hC 2 (by decide) dX4_compareExactly_75 rfl ?_
        refine pm_getf (v := 89) hC 87 fl_X4_55 rfl rfl (by decide) rfl e69 dX4_compareExactly_76 ?_
        refine pm_iload hC 4 dX4_compareExactly_79 rfl ?_
        obtain ⟨y72, e73⟩ : ∃ y, V61 89 (x18 : Int).toNat = y := ⟨_, rfl⟩
        have b74 := hV63.get 89 (x18 : Int).toNat (lo := (-9223372036854775808)) (hi := 9223372036854775807) (by decide) (show _ < 60 by omega) rfl
        rw [e73] at b74
        refine pm_laload (len := 60) (v := y72) hC 89 rfl rfl (by decide) ⟨by omega, by omega⟩ (by decide) e73 dX4_compareExactly_81 ?_
        refine pm_callV (ci := 1) (as := [(1, y72)]) (st := []) hC 79 (c_X1_times_79 y72 ⟨by omega, by omega⟩) lm_X4_65 li_X1_times (by decide) (by decide) rfl rfl rfl (by decide) rfl rfl (Nat.le_of_ble_eq_true rfl) ⟨Nat.le_refl _, Or.inl rfl⟩ dX4_compareExactly_82 ⟨rfl, hV63⟩ (fun r75 V76 hp77 => ?_)
        obtain ⟨rfl, hV78, hF79⟩ := hp77
        change pm_J X 85 [(0, (3, 78)), (1, (3, 84)), (2, (3, 87)), (3, (0, a1)), (4, (0, x18))] [] 118 V76
        have hF80 := pm_fr.tr hF65 hF79 (by decide)
        have e81 : V76 78 0 = 79 := by rw [hF79 78 (by decide)]; exact e66
        have e82 : V76 78 1 = 81 := by rw [hF79 78 (by decide)]; exact e67
        have e83 : V76 84 1 = 85 := by rw [hF79 84 (by decide)]; exact e68
        have e84 : V76 87 2 = 89 := by rw [hF79 87 (by decide)]; exact e69
        have e85 : V76 87 1 = 88 := by rw [hF79 87 (by decide)]; exact e70
        have e86 : V76 84 2 = 86 := by rw [hF79 84 (by decide)]; exact e71
        refine pm_aload_n hC 0 (by decide) dX4_compareExactly_85 rfl ?_
        refine pm_getf (v := 81) hC 78 fl_X4_16 rfl rfl (by decide) rfl e82 dX4_compareExactly_86 ?_
        refine pm_aload_n hC 2 (by decide) dX4_compareExactly_89 rfl ?_
        refine pm_getf (v := 88) hC 87 fl_X4_51 rfl rfl (by decide) rfl e85 dX4_compareExactly_90 ?_
        refine pm_iload hC 4 dX4_compareExactly_93 rfl ?_
        obtain ⟨y87, e88⟩ : ∃ y, V76 88 (x18 : Int).toNat = y := ⟨_, rfl⟩
        have b89 := hV78.get 88 (x18 : Int).toNat (lo := (-9223372036854775808)) (hi := 9223372036854775807) (by decide) (show _ < 60 by omega) rfl
        rw [e88] at b89
        refine pm_laload (len := 60) (v := y87) hC 88 rfl rfl (by decide) ⟨by omega, by omega⟩ (by decide) e88 dX4_compareExactly_95 ?_
        refine pm_callV (ci := 1) (as := [(1, y87)]) (st := []) hC 81 (c_X1_times_81 y87 ⟨by omega, by omega⟩) lm_X4_65 li_X1_times (by decide) (by decide) rfl rfl rfl (by decide) rfl rfl (Nat.le_of_ble_eq_true rfl) ⟨Nat.le_refl _, Or.inl rfl⟩ dX4_compareExactly_96 ⟨rfl, hV78⟩ (fun r90 V91 hp92 => ?_)
        obtain ⟨rfl, hV93, hF94⟩ := hp92
        change pm_J X 99 [(0, (3, 78)), (1, (3, 84)), (2, (3, 87)), (3, (0, a1)), (4, (0, x18))] [] 118 V91
        have hF95 := pm_fr.tr hF80 hF94 (by decide)
        have e96 : V91 78 0 = 79 := by rw [hF94 78 (by decide)]; exact e81
        have e97 : V91 78 1 = 81 := by rw [hF94 78 (by decide)]; exact e82
        have e98 : V91 84 1 = 85 := by rw [hF94 84 (by decide)]; exact e83
        have e99 : V91 87 2 = 89 := by rw [hF94 87 (by decide)]; exact e84
        have e100 : V91 87 1 = 88 := by rw [hF94 87 (by decide)]; exact e85
        have e101 : V91 84 2 = 86 := by rw [hF94 84 (by decide)]; exact e86
        refine pm_aload_n hC 0 (by decide) dX4_compareExactly_99 rfl ?_
        refine pm_getf (v := 81) hC 78 fl_X4_16 rfl rfl (by decide) rfl e97 dX4_compareExactly_100 ?_
        refine pm_aload_n hC 1 (by decide) dX4_compareExactly_103 rfl ?_
        refine pm_getf (v := 86) hC 84 fl_X4_55 rfl rfl (by decide) rfl e101 dX4_compareExactly_104 ?_
        refine pm_iload hC 4 dX4_compareExactly_107 rfl ?_
        obtain ⟨y102, e103⟩ : ∃ y, V91 86 (x18 : Int).toNat = y := ⟨_, rfl⟩
        have b104 := hV93.get 86 (x18 : Int).toNat (lo := (-9223372036854775808)) (hi := 9223372036854775807) (by decide) (show _ < 60 by omega) rfl
        rw [e103] at b104
        refine pm_laload (len := 60) (v := y102) hC 86 rfl rfl (by decide) ⟨by omega, by omega⟩ (by decide) e103 dX4_compareExactly_109 ?_
        refine pm_callV (ci := 1) (as := [(1, y102)]) (st := []) hC 81 (c_X1_times_81 y102 ⟨by omega, by omega⟩) lm_X4_65 li_X1_times (by decide) (by decide) rfl rfl rfl (by decide) rfl rfl (Nat.le_of_ble_eq_true rfl) ⟨Nat.le_refl _, Or.inl rfl⟩ dX4_compareExactly_110 ⟨rfl, hV93⟩ (fun r105 V106 hp107 => ?_)
        obtain ⟨rfl, hV108, hF109⟩ := hp107
        change pm_J X 113 [(0, (3, 78)), (1, (3, 84)), (2, (3, 87)), (3, (0, a1)), (4, (0, x18))] [] 118 V106
        have hF110 := pm_fr.tr hF95 hF109 (by decide)
        have e111 : V106 78 0 = 79 := by rw [hF109 78 (by decide)]; exact e96
        have e112 : V106 78 1 = 81 := by rw [hF109 78 (by decide)]; exact e97
        have e113 : V106 84 1 = 85 := by rw [hF109 84 (by decide)]; exact e98
        have e114 : V106 87 2 = 89 := by rw [hF109 87 (by decide)]; exact e99
        have e115 : V106 87 1 = 88 := by rw [hF109 87 (by decide)]; exact e100
        have e116 : V106 84 2 = 86 := by rw [hF109 84 (by decide)]; exact e101
        obtain ⟨x117, ei118⟩ : ∃ y : Int, x18 + 1 = y := ⟨_, rfl⟩
        refine pm_iinc (y := x117) (lv' := [(4, (0, x117)), (0, (3, 78)), (1, (3, 84)), (2, (3, 87)), (3, (0, a1))]) hC 4 dX4_compareExactly_113 (by decide) rfl ei118 rfl ?_
        refine pm_goto (tgt := 17) hC dX4_compareExactly_116 (by decide) ?_
        refine pm_lvsub [1, 2, 3, 4, 0] (lv' := [(0, (3, 78)), (1, (3, 84)), (2, (3, 87)), (3, (0, a1)), (4, (0, x117))]) rfl ?_
        exact ih28 _ (by omega) x117 V106 ⟨by omega, by omega⟩ hV108 hF110 e111 e112 rfl
  refine pm_lvsub [1, 2, 3, 4, 0] (lv' := [(0, (3, 78)), (1, (3, 84)), (2, (3, 87)), (3, (0, a1)), (4, (0, 0))]) rfl ?_
  exact L25 _ 0 V11 ⟨by decide, by decide⟩ hV13 hF15 e16 e17 rfl
set_option maxHeartbeats 4000000 in
set_option maxRecDepth 100000 in
theorem c_X4_compareProducts_78_84_87  : pm_K 3 yX4_compareProducts cX4_compareProducts 8 (some .int) (fun av V => av = [(3, 78), (3, 84), (3, 87)] ∧ pm_ok 0 90 V) (fun _ V r V' => ∃ y, r = some (0, y) ∧ ((-1) ≤ y ∧ y ≤ 1) ∧ pm_ok 0 90 V' ∧ pm_fr [79, 80, 81, 82] V V') := by
  refine pm_MT.of (by decide) ⟨Nat.le_refl _, by decide⟩ (fun av V h => by rw [h.1]; exact (by decide : pm_words [(3, 0), (3, 0), (3, 0)] ≤ 8)) ?_
  rintro X av V0 hC - hR ⟨rfl, hV0⟩
  change pm_J X 0 [(0, (3, 78)), (1, (3, 84)), (2, (3, 87))] [] 118 V0
  refine pm_aload_n hC 1 (by decide) dX4_compareProducts_0 rfl ?_
  refine pm_callV (ci := 0) (as := []) (st := []) hC 84 c_X0_isNever_84 lm_X4_19 li_X0_isNever (by decide) (by decide) rfl rfl rfl (by decide) rfl rfl (Nat.le_of_ble_eq_true rfl) ⟨Nat.le_refl _, Or.inl rfl⟩ dX4_compareProducts_1 ⟨rfl, hV0⟩ (fun r1 V2 hp3 => ?_)
  obtain ⟨y4, rfl, b5, rfl⟩ := hp3
  change pm_J X 4 [(0, (3, 78)), (1, (3, 84)), (2, (3, 87))] [(0, y4)] 118 V0
  refine pm_istore_n (lv' := [(3, (0, y4)), (0, (3, 78)), (1, (3, 84)), (2, (3, 87))]) hC dX4_compareProducts_4 (by decide) rfl ?_
  refine pm_aload_n hC 3 (by decide) dX4_compareProducts_5 rfl ?_
  refine pm_callV (ci := 0) (as := []) (st := []) hC 87 c_X0_isNever_87 lm_X4_19 li_X0_isNever (by decide) (by decide) rfl rfl rfl (by decide) rfl rfl (Nat.le_of_ble_eq_true rfl) ⟨Nat.le_refl _, Or.inl rfl⟩ dX4_compareProducts_6 ⟨rfl, hV0⟩ (fun r6 V7 hp8 => ?_)
  obtain ⟨y9, rfl, b10, rfl⟩ := hp8
  change pm_J X 9 [(3, (0, y4)), (0, (3, 78)), (1, (3, 84)), (2, (3, 87))] [(0, y9)] 118 V0
  refine pm_istore (lv' := [(4, (0, y9)), (3, (0, y4)), (0, (3, 78)), (1, (3, 84)), (2, (3, 87))]) hC dX4_compareProducts_9 (by decide) rfl ?_
  refine pm_iload_n hC 1 dX4_compareProducts_11 rfl ?_
  refine pm_if_ne (tgt := 20) hC ⟨by omega, by omega⟩ dX4_compareProducts_12 (by decide) (fun c11 => ?_) (fun c11 => ?_)
  · skip
    refine pm_iload hC 0 dX4_compareProducts_20 rfl ?_
    refine pm_if_eq (tgt := 29) hC ⟨by omega, by omega⟩ dX4_compareProducts_22 (by decide) (fun c12 => ?_) (fun c12 => ?_)
    · skip
      refine pm_iconst (v := 0) hC dX4_compareProducts_29 ?_
      refine pm_iload_n hC 1 dX4_compareProducts_30 rfl ?_
      refine pm_if_eq (tgt := 38) hC ⟨by omega, by omega⟩ dX4_compareProducts_31 (by decide) (fun c13 => ?_) (fun c13 => ?_)
      · skip
        exfalso; omega
      · skip
        refine pm_iconst (v := 1) hC dX4_compareProducts_34 ?_
        refine pm_goto (tgt := 39) hC dX4_compareProducts_35 (by decide) ?_
        refine pm_isub hC dX4_compareProducts_39 ?_
        change pm_J X 40 [(4, (0, y9)), (3, (0, y4)), (0, (3, 78)), (1, (3, 84)), (2, (3, 87))] [(0, (-1))] 118 V0
        exact pm_iret hC hR pm_nar0 ⟨(-1), rfl, ⟨by omega, by omega⟩, hV0, (pm_fr.rf (ws := [79, 80, 81, 82]) (V := V0))⟩ dX4_compareProducts_40
    · skip
      refine pm_iconst (v := 1) hC dX4_compareProducts_25 ?_
      refine pm_goto (tgt := 30) hC dX4_compareProducts_26 (by decide) ?_
      refine pm_iload_n hC 1 dX4_compareProducts_30 rfl ?_
      refine pm_if_eq (tgt := 38) hC ⟨by omega, by omega⟩ dX4_compareProducts_31 (by decide) (fun c14 => ?_) (fun c14 => ?_)
      · skip
        exfalso; omega
      · skip
        refine pm_iconst (v := 1) hC dX4_compareProducts_34 ?_
        refine pm_goto (tgt := 39) hC dX4_compareProducts_35 (by decide) ?_
        refine pm_isub hC dX4_compareProducts_39 ?_
        change pm_J X 40 [(4, (0, y9)), (3, (0, y4)), (0, (3, 78)), (1, (3, 84)), (2, (3, 87))] [(0, 0)] 118 V0
        exact pm_iret hC hR pm_nar0 ⟨0, rfl, ⟨by omega, by omega⟩, hV0, (pm_fr.rf (ws := [79, 80, 81, 82]) (V := V0))⟩ dX4_compareProducts_40
  · skip
    refine pm_iload hC 0 dX4_compareProducts_15 rfl ?_
    refine pm_if_eq (tgt := 41) hC ⟨by omega, by omega⟩ dX4_compareProducts_17 (by decide) (fun c15 => ?_) (fun c15 => ?_)
    · skip
      refine pm_aload_n hC 3 (by decide) dX4_compareProducts_41 rfl ?_
      obtain ⟨y16, e17⟩ : ∃ y, V0 84 0 = y := ⟨_, rfl⟩
      have b18 := hV0.get 84 0 (lo := 0) (hi := 60) (by decide) (by decide) rfl
      rw [e17] at b18
      refine pm_getf (v := y16) hC 84 fl_X4_25 rfl rfl (by decide) rfl e17 dX4_compareProducts_42 ?_
      refine pm_aload_n hC 4 (by decide) dX4_compareProducts_45 rfl ?_
      obtain ⟨y19, e20⟩ : ∃ y, V0 87 0 = y := ⟨_, rfl⟩
      have b21 := hV0.get 87 0 (lo := 0) (hi := 60) (by decide) (by decide) rfl
      rw [e20] at b21
      refine pm_getf (v := y19) hC 87 fl_X4_25 rfl rfl (by decide) rfl e20 dX4_compareProducts_46 ?_
      refine pm_mmin hC 4159 4160 1018 4161 ⟨by omega, by omega⟩ ⟨by omega, by omega⟩ (by decide) wL_X4_29 wS_mmin wI_math wC_mmin (Nat.le_of_ble_eq_true rfl) dX4_compareProducts_49 (fun y22 b23 => ?_)
      refine pm_istore (lv' := [(5, (0, y22)), (4, (0, y9)), (3, (0, y4)), (0, (3, 78)), (1, (3, 84)), (2, (3, 87))]) hC dX4_compareProducts_52 (by decide) rfl ?_
      refine pm_aload_n hC 4 (by decide) dX4_compareProducts_54 rfl ?_
      refine pm_aload_n hC 5 (by decide) dX4_compareProducts_55 rfl ?_
      refine pm_iload hC 0 dX4_compareProducts_56 rfl ?_
      refine pm_callS (as := [(3, 84), (3, 87), (0, y22)]) (st := []) hC (c_X4_roughQuotient_84_87 y22 ⟨by omega, by omega⟩) lm_X4_35 ls_X4_roughQuotient (by decide) (by decide) rfl rfl (Nat.le_of_ble_eq_true rfl) ⟨Nat.le_refl _, Or.inl rfl⟩ dX4_compareProducts_58 ⟨rfl, hV0⟩ (fun r24 V25 hp26 => ?_)
      obtain ⟨y27, rfl, b28, rfl⟩ := hp26
      change pm_J X 61 [(5, (0, y22)), (4, (0, y9)), (3, (0, y4)), (0, (3, 78)), (1, (3, 84)), (2, (3, 87))] [(2, y27)] 118 V0
      refine pm_dstore (lv' := [(6, (2, y27)), (5, (0, y22)), (4, (0, y9)), (3, (0, y4)), (0, (3, 78)), (1, (3, 84)), (2, (3, 87))]) hC dX4_compareProducts_61 (by decide) rfl ?_
      refine pm_dload hC 0 dX4_compareProducts_63 rfl ?_
      refine pm_ldc2d (v := 4607182418804521008) hC 4171 dX4_compareProducts_65 (by decide +kernel) (fun r29 => ?_)
      refine pm_dcmp hC dX4_compareProducts_68 (fun y30 b31 => ?_)
      have b31 := And.intro b31.1 b31.2
      refine pm_if_le (tgt := 74) hC ⟨by omega, by omega⟩ dX4_compareProducts_69 (by decide) (fun c32 => ?_) (fun c32 => ?_)
      · skip
        refine pm_dload hC 0 dX4_compareProducts_74 rfl ?_
        refine pm_ldc2d (v := 4607182418791010209) hC 4172 dX4_compareProducts_76 (by decide +kernel) (fun r33 => ?_)
        refine pm_dcmp hC dX4_compareProducts_79 (fun y34 b35 => ?_)
        have b35 := And.intro b35.1 b35.2
        refine pm_if_ge (tgt := 85) hC ⟨by omega, by omega⟩ dX4_compareProducts_80 (by decide) (fun c36 => ?_) (fun c36 => ?_)
        · skip
          refine pm_aload_n hC 4 (by decide) dX4_compareProducts_85 rfl ?_
          refine pm_aload_n hC 5 (by decide) dX4_compareProducts_86 rfl ?_
          refine pm_aload_n hC 6 (by decide) dX4_compareProducts_87 rfl ?_
          refine pm_iload hC 1 dX4_compareProducts_88 rfl ?_
          refine pm_callV (ci := 4) (as := [(3, 84), (3, 87), (0, y22)]) (st := []) hC 78 (c_X4_compareExactly_78_84_87 y22 ⟨by omega, by omega⟩) lm_X4_43 li_X4_compareExactly (by decide) (by decide) rfl rfl rfl (by decide) rfl rfl (Nat.le_of_ble_eq_true rfl) ⟨Nat.le_refl _, Or.inl rfl⟩ dX4_compareProducts_90 ⟨rfl, hV0⟩ (fun r37 V38 hp39 => ?_)
          obtain ⟨y40, rfl, b41, hV42, hF43⟩ := hp39
          change pm_J X 93 [(6, (2, y27)), (5, (0, y22)), (4, (0, y9)), (3, (0, y4)), (0, (3, 78)), (1, (3, 84)), (2, (3, 87))] [(0, y40)] 118 V38
          have hF44 := pm_fr.tr (pm_fr.rf (ws := [79, 80, 81, 82]) (V := V0)) hF43 (by decide)
          have e45 : V38 84 0 = y16 := by rw [hF43 84 (by decide)]; exact e17
          have e46 : V38 87 0 = y19 := by rw [hF43 87 (by decide)]; exact e20
          exact pm_iret hC hR pm_nar0 ⟨y40, rfl, ⟨by omega, by omega⟩, hV42, hF44⟩ dX4_compareProducts_93
        · skip
          refine pm_iconst (v := (-1)) hC dX4_compareProducts_83 ?_
          exact pm_iret hC hR pm_nar0 ⟨(-1), rfl, ⟨by omega, by omega⟩, hV0, (pm_fr.rf (ws := [79, 80, 81, 82]) (V := V0))⟩ dX4_compareProducts_84
      · skip
        refine pm_iconst (v := 1) hC dX4_compareProducts_72 ?_
        exact pm_iret hC hR pm_nar0 ⟨1, rfl, ⟨by omega, by omega⟩, hV0, (pm_fr.rf (ws := [79, 80, 81, 82]) (V := V0))⟩ dX4_compareProducts_73
    · skip
      refine pm_iload hC 0 dX4_compareProducts_20 rfl ?_
      refine pm_if_eq (tgt := 29) hC ⟨by omega, by omega⟩ dX4_compareProducts_22 (by decide) (fun c47 => ?_) (fun c47 => ?_)
      · skip
        exfalso; omega
      · skip
        refine pm_iconst (v := 1) hC dX4_compareProducts_25 ?_
        refine pm_goto (tgt := 30) hC dX4_compareProducts_26 (by decide) ?_
        refine pm_iload_n hC 1 dX4_compareProducts_30 rfl ?_
        refine pm_if_eq (tgt := 38) hC ⟨by omega, by omega⟩ dX4_compareProducts_31 (by decide) (fun c48 => ?_) (fun c48 => ?_)
        · skip
          refine pm_iconst (v := 0) hC dX4_compareProducts_38 ?_
          refine pm_isub hC dX4_compareProducts_39 ?_
          change pm_J X 40 [(4, (0, y9)), (3, (0, y4)), (0, (3, 78)), (1, (3, 84)), (2, (3, 87))] [(0, 1)] 118 V0
          exact pm_iret hC hR pm_nar0 ⟨1, rfl, ⟨by omega, by omega⟩, hV0, (pm_fr.rf (ws := [79, 80, 81, 82]) (V := V0))⟩ dX4_compareProducts_40
        · skip
          exfalso; omega
set_option maxHeartbeats 4000000 in
set_option maxRecDepth 100000 in
theorem c_X4_roughQuotient_87_84 (a1 : Int) (h0 : 0 ≤ a1 ∧ a1 ≤ 60) : pm_K 2 yX4_roughQuotient cX4_roughQuotient 9 (some .double) (fun av V => av = [(3, 87), (3, 84), (0, a1)] ∧ pm_ok 0 90 V) (fun _ V r V' => ∃ y, r = some (2, y) ∧ True ∧ V = V') := by
  refine pm_MT.of (by decide) ⟨Nat.le_refl _, by decide⟩ (fun av V h => by rw [h.1]; exact (by decide : pm_words [(3, 0), (3, 0), (0, 0)] ≤ 9)) ?_
  rintro X av V0 hC - hR ⟨rfl, hV0⟩
  change pm_J X 0 [(0, (3, 87)), (1, (3, 84)), (2, (0, a1))] [] 118 V0
  refine pm_dconst1 hC dX4_roughQuotient_0 (fun r1 => ?_)
  refine pm_dstore_n (lv' := [(3, (2, r1)), (0, (3, 87)), (1, (3, 84)), (2, (0, a1))]) hC dX4_roughQuotient_1 (by decide) rfl ?_
  refine pm_iconst (v := 0) hC dX4_roughQuotient_2 ?_
  refine pm_istore (lv' := [(5, (0, 0)), (3, (2, r1)), (0, (3, 87)), (1, (3, 84)), (2, (0, a1))]) hC dX4_roughQuotient_3 (by decide) rfl ?_
  refine pm_iconst (v := 0) hC dX4_roughQuotient_5 ?_
  refine pm_istore (lv' := [(6, (0, 0)), (5, (0, 0)), (3, (2, r1)), (0, (3, 87)), (1, (3, 84)), (2, (0, a1))]) hC dX4_roughQuotient_6 (by decide) rfl ?_
  refine pm_iconst (v := 0) hC dX4_roughQuotient_8 ?_
  refine pm_istore (lv' := [(7, (0, 0)), (6, (0, 0)), (5, (0, 0)), (3, (2, r1)), (0, (3, 87)), (1, (3, 84)), (2, (0, a1))]) hC dX4_roughQuotient_9 (by decide) rfl ?_
  have L12 : ∀ (N14 : Nat) (x2 : Int) (x3 : Int) (x5 : Int) (x7 : Int), (0 ≤ x3 ∧ x3 ≤ 120) → (0 ≤ x5 ∧ x5 ≤ 120) → (0 ≤ x7 ∧ x7 ≤ 240) → (x3 + x5 = x7) → (x3 ≤ 2 * a1) → (x5 ≤ 2 * a1) → (Int.toNat (240 - x7)) = N14 → pm_J X 11 [(0, (3, 87)), (1, (3, 84)), (2, (0, a1)), (3, (2, x2)), (5, (0, x3)), (6, (0, x5)), (7, (0, x7))] [] 118 V0 := by
    intro N14
    induction N14 using Nat.strongRecOn with
    | _ N14 ih15 =>
    intro x2 x3 x5 x7 b4 b6 b8 b9 b10 b11 hm13
    refine pm_iload hC 6 dX4_roughQuotient_11 rfl ?_
    refine pm_iconst (v := 4) hC dX4_roughQuotient_13 ?_
    refine pm_iload_n hC 2 dX4_roughQuotient_14 rfl ?_
    refine pm_imul hC dX4_roughQuotient_15 ?_
    refine pm_icmp_ge (tgt := 90) hC ⟨by omega, by omega⟩ ⟨by omega, by omega⟩ dX4_roughQuotient_16 (by decide) (fun c16 => ?_) (fun c16 => ?_)
    · skip
      refine pm_dload_n hC 3 dX4_roughQuotient_90 rfl ?_
      exact pm_dret hC hR ⟨x2, rfl, trivial, rfl⟩ dX4_roughQuotient_91
    · skip
      refine pm_iload hC 5 dX4_roughQuotient_19 rfl ?_
      refine pm_iconst (v := 2) hC dX4_roughQuotient_21 ?_
      refine pm_iload_n hC 2 dX4_roughQuotient_22 rfl ?_
      refine pm_imul hC dX4_roughQuotient_23 ?_
      refine pm_icmp_ge (tgt := 41) hC ⟨by omega, by omega⟩ ⟨by omega, by omega⟩ dX4_roughQuotient_24 (by decide) (fun c17 => ?_) (fun c17 => ?_)
      · skip
        refine pm_iconst (v := 1) hC dX4_roughQuotient_41 ?_
        refine pm_goto (tgt := 46) hC dX4_roughQuotient_42 (by decide) ?_
        refine pm_istore (lv' := [(8, (0, 1)), (0, (3, 87)), (1, (3, 84)), (2, (0, a1)), (3, (2, x2)), (5, (0, x3)), (6, (0, x5)), (7, (0, x7))]) hC dX4_roughQuotient_46 (by decide) rfl ?_
        refine pm_iload hC 0 dX4_roughQuotient_48 rfl ?_
        refine pm_if_eq (tgt := 70) hC ⟨by decide, by decide⟩ dX4_roughQuotient_50 (by decide) (fun c18 => ?_) (fun c18 => ?_)
        · skip
          exfalso; omega
        · skip
          refine pm_dload_n hC 4 dX4_roughQuotient_53 rfl ?_
          refine pm_aload_n hC 1 (by decide) dX4_roughQuotient_54 rfl ?_
          refine pm_aload_n hC 2 (by decide) dX4_roughQuotient_55 rfl ?_
          refine pm_iload hC 5 dX4_roughQuotient_56 rfl ?_
          refine pm_callS (as := [(3, 87), (3, 84), (0, x3)]) (st := [(2, x2)]) hC (c_X4_factorOf_87_84 x3 ⟨by omega, by omega⟩) lm_X4_47 ls_X4_factorOf (by decide) (by decide) rfl rfl (Nat.le_of_ble_eq_true rfl) ⟨Nat.le_refl _, Or.inl rfl⟩ dX4_roughQuotient_58 ⟨rfl, hV0⟩ (fun r19 V20 hp21 => ?_)
          obtain ⟨y22, rfl, b23, rfl⟩ := hp21
          change pm_J X 61 [(8, (0, 1)), (0, (3, 87)), (1, (3, 84)), (2, (0, a1)), (3, (2, x2)), (5, (0, x3)), (6, (0, x5)), (7, (0, x7))] [(1, y22), (2, x2)] 118 V0
          refine pm_l2d hC dX4_roughQuotient_61 (fun r24 => ?_)
          refine pm_dmul hC dX4_roughQuotient_62 (fun r25 => ?_)
          refine pm_dstore_n (lv' := [(3, (2, r25)), (8, (0, 1)), (0, (3, 87)), (1, (3, 84)), (2, (0, a1)), (5, (0, x3)), (6, (0, x5)), (7, (0, x7))]) hC dX4_roughQuotient_63 (by decide) rfl ?_
          obtain ⟨x26, ei27⟩ : ∃ y : Int, x3 + 1 = y := ⟨_, rfl⟩
          refine pm_iinc (y := x26) (lv' := [(5, (0, x26)), (3, (2, r25)), (8, (0, 1)), (0, (3, 87)), (1, (3, 84)), (2, (0, a1)), (6, (0, x5)), (7, (0, x7))]) hC 5 dX4_roughQuotient_64 (by decide) rfl ei27 rfl ?_
          refine pm_goto (tgt := 84) hC dX4_roughQuotient_67 (by decide) ?_
          obtain ⟨x28, ei29⟩ : ∃ y : Int, x7 + 1 = y := ⟨_, rfl⟩
          refine pm_iinc (y := x28) (lv' := [(7, (0, x28)), (5, (0, x26)), (3, (2, r25)), (8, (0, 1)), (0, (3, 87)), (1, (3, 84)), (2, (0, a1)), (6, (0, x5))]) hC 7 dX4_roughQuotient_84 (by decide) rfl ei29 rfl ?_
          refine pm_goto (tgt := 11) hC dX4_roughQuotient_87 (by decide) ?_
          refine pm_lvsub [4, 5, 6, 2, 1, 7, 0] (lv' := [(0, (3, 87)), (1, (3, 84)), (2, (0, a1)), (3, (2, r25)), (5, (0, x26)), (6, (0, x5)), (7, (0, x28))]) rfl ?_
          exact ih15 _ (by omega) r25 x26 x5 x28 ⟨by omega, by omega⟩ ⟨by omega, by omega⟩ ⟨by omega, by omega⟩ (by omega) (by omega) (by omega) rfl
      · skip
        refine pm_iload hC 4 dX4_roughQuotient_27 rfl ?_
        refine pm_iconst (v := 2) hC dX4_roughQuotient_29 ?_
        refine pm_iload_n hC 2 dX4_roughQuotient_30 rfl ?_
        refine pm_imul hC dX4_roughQuotient_31 ?_
        refine pm_icmp_ge (tgt := 45) hC ⟨by omega, by omega⟩ ⟨by omega, by omega⟩ dX4_roughQuotient_32 (by decide) (fun c30 => ?_) (fun c30 => ?_)
        · skip
          refine pm_iconst (v := 0) hC dX4_roughQuotient_45 ?_
          refine pm_istore (lv' := [(8, (0, 0)), (0, (3, 87)), (1, (3, 84)), (2, (0, a1)), (3, (2, x2)), (5, (0, x3)), (6, (0, x5)), (7, (0, x7))]) hC dX4_roughQuotient_46 (by decide) rfl ?_
          refine pm_iload hC 0 dX4_roughQuotient_48 rfl ?_
          refine pm_if_eq (tgt := 70) hC ⟨by decide, by decide⟩ dX4_roughQuotient_50 (by decide) (fun c31 => ?_) (fun c31 => ?_)
          · skip
            refine pm_dload_n hC 4 dX4_roughQuotient_70 rfl ?_
            refine pm_aload_n hC 2 (by decide) dX4_roughQuotient_71 rfl ?_
            refine pm_aload_n hC 1 (by decide) dX4_roughQuotient_72 rfl ?_
            refine pm_iload hC 6 dX4_roughQuotient_73 rfl ?_
            refine pm_callS (as := [(3, 84), (3, 87), (0, x5)]) (st := [(2, x2)]) hC (c_X4_factorOf_84_87 x5 ⟨by omega, by omega⟩) lm_X4_47 ls_X4_factorOf (by decide) (by decide) rfl rfl (Nat.le_of_ble_eq_true rfl) ⟨Nat.le_refl _, Or.inl rfl⟩ dX4_roughQuotient_75 ⟨rfl, hV0⟩ (fun r32 V33 hp34 => ?_)
            obtain ⟨y35, rfl, b36, rfl⟩ := hp34
            change pm_J X 78 [(8, (0, 0)), (0, (3, 87)), (1, (3, 84)), (2, (0, a1)), (3, (2, x2)), (5, (0, x3)), (6, (0, x5)), (7, (0, x7))] [(1, y35), (2, x2)] 118 V0
            refine pm_l2d hC dX4_roughQuotient_78 (fun r37 => ?_)
            refine pm_ddiv hC dX4_roughQuotient_79 (fun r38 => ?_)
            refine pm_dstore_n (lv' := [(3, (2, r38)), (8, (0, 0)), (0, (3, 87)), (1, (3, 84)), (2, (0, a1)), (5, (0, x3)), (6, (0, x5)), (7, (0, x7))]) hC dX4_roughQuotient_80 (by decide) rfl ?_
            obtain ⟨x39, ei40⟩ : ∃ y : Int, x5 + 1 = y := ⟨_, rfl⟩
            refine pm_iinc (y := x39) (lv' := [(6, (0, x39)), (3, (2, r38)), (8, (0, 0)), (0, (3, 87)), (1, (3, 84)), (2, (0, a1)), (5, (0, x3)), (7, (0, x7))]) hC 6 dX4_roughQuotient_81 (by decide) rfl ei40 rfl ?_
            obtain ⟨x41, ei42⟩ : ∃ y : Int, x7 + 1 = y := ⟨_, rfl⟩
            refine pm_iinc (y := x41) (lv' := [(7, (0, x41)), (6, (0, x39)), (3, (2, r38)), (8, (0, 0)), (0, (3, 87)), (1, (3, 84)), (2, (0, a1)), (5, (0, x3))]) hC 7 dX4_roughQuotient_84 (by decide) rfl ei42 rfl ?_
            refine pm_goto (tgt := 11) hC dX4_roughQuotient_87 (by decide) ?_
            refine pm_lvsub [4, 5, 6, 2, 7, 1, 0] (lv' := [(0, (3, 87)), (1, (3, 84)), (2, (0, a1)), (3, (2, r38)), (5, (0, x3)), (6, (0, x39)), (7, (0, x41))]) rfl ?_
            exact ih15 _ (by omega) r38 x3 x39 x41 ⟨by omega, by omega⟩ ⟨by omega, by omega⟩ ⟨by omega, by omega⟩ (by omega) (by omega) (by omega) rfl
          · skip
            exfalso; omega
        · skip
          refine pm_dload_n hC 3 dX4_roughQuotient_35 rfl ?_
          refine pm_dconst1 hC dX4_roughQuotient_36 (fun r43 => ?_)
          refine pm_dcmp hC dX4_roughQuotient_37 (fun y44 b45 => ?_)
          have b45 := And.intro b45.1 b45.2
          refine pm_if_gt (tgt := 45) hC ⟨by omega, by omega⟩ dX4_roughQuotient_38 (by decide) (fun c46 => ?_) (fun c46 => ?_)
          · skip
            refine pm_iconst (v := 0) hC dX4_roughQuotient_45 ?_
            refine pm_istore (lv' := [(8, (0, 0)), (0, (3, 87)), (1, (3, 84)), (2, (0, a1)), (3, (2, x2)), (5, (0, x3)), (6, (0, x5)), (7, (0, x7))]) hC dX4_roughQuotient_46 (by decide) rfl ?_
            refine pm_iload hC 0 dX4_roughQuotient_48 rfl ?_
            refine pm_if_eq (tgt := 70) hC ⟨by decide, by decide⟩ dX4_roughQuotient_50 (by decide) (fun c47 => ?_) (fun c47 => ?_)
            · skip
              refine pm_dload_n hC 4 dX4_roughQuotient_70 rfl ?_
              refine pm_aload_n hC 2 (by decide) dX4_roughQuotient_71 rfl ?_
              refine pm_aload_n hC 1 (by decide) dX4_roughQuotient_72 rfl ?_
              refine pm_iload hC 6 dX4_roughQuotient_73 rfl ?_
              refine pm_callS (as := [(3, 84), (3, 87), (0, x5)]) (st := [(2, x2)]) hC (c_X4_factorOf_84_87 x5 ⟨by omega, by omega⟩) lm_X4_47 ls_X4_factorOf (by decide) (by decide) rfl rfl (Nat.le_of_ble_eq_true rfl) ⟨Nat.le_refl _, Or.inl rfl⟩ dX4_roughQuotient_75 ⟨rfl, hV0⟩ (fun r48 V49 hp50 => ?_)
              obtain ⟨y51, rfl, b52, rfl⟩ := hp50
              change pm_J X 78 [(8, (0, 0)), (0, (3, 87)), (1, (3, 84)), (2, (0, a1)), (3, (2, x2)), (5, (0, x3)), (6, (0, x5)), (7, (0, x7))] [(1, y51), (2, x2)] 118 V0
              refine pm_l2d hC dX4_roughQuotient_78 (fun r53 => ?_)
              refine pm_ddiv hC dX4_roughQuotient_79 (fun r54 => ?_)
              refine pm_dstore_n (lv' := [(3, (2, r54)), (8, (0, 0)), (0, (3, 87)), (1, (3, 84)), (2, (0, a1)), (5, (0, x3)), (6, (0, x5)), (7, (0, x7))]) hC dX4_roughQuotient_80 (by decide) rfl ?_
              obtain ⟨x55, ei56⟩ : ∃ y : Int, x5 + 1 = y := ⟨_, rfl⟩
              refine pm_iinc (y := x55) (lv' := [(6, (0, x55)), (3, (2, r54)), (8, (0, 0)), (0, (3, 87)), (1, (3, 84)), (2, (0, a1)), (5, (0, x3)), (7, (0, x7))]) hC 6 dX4_roughQuotient_81 (by decide) rfl ei56 rfl ?_
              obtain ⟨x57, ei58⟩ : ∃ y : Int, x7 + 1 = y := ⟨_, rfl⟩
              refine pm_iinc (y := x57) (lv' := [(7, (0, x57)), (6, (0, x55)), (3, (2, r54)), (8, (0, 0)), (0, (3, 87)), (1, (3, 84)), (2, (0, a1)), (5, (0, x3))]) hC 7 dX4_roughQuotient_84 (by decide) rfl ei58 rfl ?_
              refine pm_goto (tgt := 11) hC dX4_roughQuotient_87 (by decide) ?_
              refine pm_lvsub [4, 5, 6, 2, 7, 1, 0] (lv' := [(0, (3, 87)), (1, (3, 84)), (2, (0, a1)), (3, (2, r54)), (5, (0, x3)), (6, (0, x55)), (7, (0, x57))]) rfl ?_
              exact ih15 _ (by omega) r54 x3 x55 x57 ⟨by omega, by omega⟩ ⟨by omega, by omega⟩ ⟨by omega, by omega⟩ (by omega) (by omega) (by omega) rfl
            · skip
              exfalso; omega
          · skip
            refine pm_iconst (v := 1) hC dX4_roughQuotient_41 ?_
            refine pm_goto (tgt := 46) hC dX4_roughQuotient_42 (by decide) ?_
            refine pm_istore (lv' := [(8, (0, 1)), (0, (3, 87)), (1, (3, 84)), (2, (0, a1)), (3, (2, x2)), (5, (0, x3)), (6, (0, x5)), (7, (0, x7))]) hC dX4_roughQuotient_46 (by decide) rfl ?_
            refine pm_iload hC 0 dX4_roughQuotient_48 rfl ?_
            refine pm_if_eq (tgt := 70) hC ⟨by decide, by decide⟩ dX4_roughQuotient_50 (by decide) (fun c59 => ?_) (fun c59 => ?_)
            · skip
              exfalso; omega
            · skip
              refine pm_dload_n hC 4 dX4_roughQuotient_53 rfl ?_
              refine pm_aload_n hC 1 (by decide) dX4_roughQuotient_54 rfl ?_
              refine pm_aload_n hC 2 (by decide) dX4_roughQuotient_55 rfl ?_
              refine pm_iload hC 5 dX4_roughQuotient_56 rfl ?_
              refine pm_callS (as := [(3, 87), (3, 84), (0, x3)]) (st := [(2, x2)]) hC (c_X4_factorOf_87_84 x3 ⟨by omega, by omega⟩) lm_X4_47 ls_X4_factorOf (by decide) (by decide) rfl rfl (Nat.le_of_ble_eq_true rfl) ⟨Nat.le_refl _, Or.inl rfl⟩ dX4_roughQuotient_58 ⟨rfl, hV0⟩ (fun r60 V61 hp62 => ?_)
              obtain ⟨y63, rfl, b64, rfl⟩ := hp62
              change pm_J X 61 [(8, (0, 1)), (0, (3, 87)), (1, (3, 84)), (2, (0, a1)), (3, (2, x2)), (5, (0, x3)), (6, (0, x5)), (7, (0, x7))] [(1, y63), (2, x2)] 118 V0
              refine pm_l2d hC dX4_roughQuotient_61 (fun r65 => ?_)
              refine pm_dmul hC dX4_roughQuotient_62 (fun r66 => ?_)
              refine pm_dstore_n (lv' := [(3, (2, r66)), (8, (0, 1)), (0, (3, 87)), (1, (3, 84)), (2, (0, a1)), (5, (0, x3)), (6, (0, x5)), (7, (0, x7))]) hC dX4_roughQuotient_63 (by decide) rfl ?_
              obtain ⟨x67, ei68⟩ : ∃ y : Int, x3 + 1 = y := ⟨_, rfl⟩
              refine pm_iinc (y := x67) (lv' := [(5, (0, x67)), (3, (2, r66)), (8, (0, 1)), (0, (3, 87)), (1, (3, 84)), (2, (0, a1)), (6, (0, x5)), (7, (0, x7))]) hC 5 dX4_roughQuotient_64 (by decide) rfl ei68 rfl ?_
              refine pm_goto (tgt := 84) hC dX4_roughQuotient_67 (by decide) ?_
              obtain ⟨x69, ei70⟩ : ∃ y : Int, x7 + 1 = y := ⟨_, rfl⟩
              refine pm_iinc (y := x69) (lv' := [(7, (0, x69)), (5, (0, x67)), (3, (2, r66)), (8, (0, 1)), (0, (3, 87)), (1, (3, 84)), (2, (0, a1)), (6, (0, x5))]) hC 7 dX4_roughQuotient_84 (by decide) rfl ei70 rfl ?_
              refine pm_goto (tgt := 11) hC dX4_roughQuotient_87 (by decide) ?_
              refine pm_lvsub [4, 5, 6, 2, 1, 7, 0] (lv' := [(0, (3, 87)), (1, (3, 84)), (2, (0, a1)), (3, (2, r66)), (5, (0, x67)), (6, (0, x5)), (7, (0, x69))]) rfl ?_
              exact ih15 _ (by omega) r66 x67 x5 x69 ⟨by omega, by omega⟩ ⟨by omega, by omega⟩ ⟨by omega, by omega⟩ (by omega) (by omega) (by omega) rfl
  refine pm_lvsub [4, 5, 6, 3, 2, 1, 0] (lv' := [(0, (3, 87)), (1, (3, 84)), (2, (0, a1)), (3, (2, r1)), (5, (0, 0)), (6, (0, 0)), (7, (0, 0))]) rfl ?_
  exact L12 _ r1 0 0 0 ⟨by decide, by decide⟩ ⟨by decide, by decide⟩ ⟨by decide, by decide⟩ (by omega) (by omega) (by omega) rfl
set_option maxHeartbeats 4000000 in
set_option maxRecDepth 100000 in
theorem c_X4_compareExactly_78_87_84 (a1 : Int) (h0 : 0 ≤ a1 ∧ a1 ≤ 60) : pm_K 2 yX4_compareExactly cX4_compareExactly 5 (some .int) (fun av V => av = [(3, 78), (3, 87), (3, 84), (0, a1)] ∧ pm_ok 0 90 V) (fun _ V r V' => ∃ y, r = some (0, y) ∧ ((-1) ≤ y ∧ y ≤ 1) ∧ pm_ok 0 90 V' ∧ pm_fr [79, 80, 81, 82] V V') := by
  refine pm_MT.of (by decide) ⟨Nat.le_refl _, by decide⟩ (fun av V h => by rw [h.1]; exact (by decide : pm_words [(3, 0), (3, 0), (3, 0), (0, 0)] ≤ 5)) ?_
  rintro X av V0 hC - hR ⟨rfl, hV0⟩
  change pm_J X 0 [(0, (3, 78)), (1, (3, 87)), (2, (3, 84)), (3, (0, a1))] [] 118 V0
  refine pm_aload_n hC 0 (by decide) dX4_compareExactly_0 rfl ?_
  have e1 : V0 78 0 = 79 := hV0.one 78 0 (by decide) (by decide) rfl
  refine pm_getf (v := 79) hC 78 fl_X4_10 rfl rfl (by decide) rfl e1 dX4_compareExactly_1 ?_
  refine pm_callV (ci := 1) (as := []) (st := []) hC 79 c_X1_begin_79 lm_X4_62 li_X1_begin (by decide) (by decide) rfl rfl rfl (by decide) rfl rfl (Nat.le_of_ble_eq_true rfl) ⟨Nat.le_refl _, Or.inl rfl⟩ dX4_compareExactly_4 ⟨rfl, hV0⟩ (fun r2 V3 hp4 => ?_)
  obtain ⟨rfl, hV5, hF6⟩ := hp4
  change pm_J X 7 [(0, (3, 78)), (1, (3, 87)), (2, (3, 84)), (3, (0, a1))] [] 118 V3
  have hF7 := pm_fr.tr (pm_fr.rf (ws := [79, 80, 81, 82]) (V := V0)) hF6 (by decide)
  have e8 : V3 78 0 = 79 := by rw [hF6 78 (by decide)]; exact e1
  refine pm_aload_n hC 0 (by decide) dX4_compareExactly_7 rfl ?_
  have e9 : V3 78 1 = 81 := hV5.one 78 1 (by decide) (by decide) rfl
  refine pm_getf (v := 81) hC 78 fl_X4_16 rfl rfl (by decide) rfl e9 dX4_compareExactly_8 ?_
  refine pm_callV (ci := 1) (as := []) (st := []) hC 81 c_X1_begin_81 lm_X4_62 li_X1_begin (by decide) (by decide) rfl rfl rfl (by decide) rfl rfl (Nat.le_of_ble_eq_true rfl) ⟨Nat.le_refl _, Or.inl rfl⟩ dX4_compareExactly_11 ⟨rfl, hV5⟩ (fun r10 V11 hp12 => ?_)
  obtain ⟨rfl, hV13, hF14⟩ := hp12
  change pm_J X 14 [(0, (3, 78)), (1, (3, 87)), (2, (3, 84)), (3, (0, a1))] [] 118 V11
  have hF15 := pm_fr.tr hF7 hF14 (by decide)
  have e16 : V11 78 0 = 79 := by rw [hF14 78 (by decide)]; exact e8
  have e17 : V11 78 1 = 81 := by rw [hF14 78 (by decide)]; exact e9
  refine pm_iconst (v := 0) hC dX4_compareExactly_14 ?_
  refine pm_istore (lv' := [(4, (0, 0)), (0, (3, 78)), (1, (3, 87)), (2, (3, 84)), (3, (0, a1))]) hC dX4_compareExactly_15 (by decide) rfl ?_
  have L25 : ∀ (N27 : Nat) (x18 : Int) (V20 : pm_M), (0 ≤ x18 ∧ x18 ≤ 60) → pm_ok 0 90 V20 → pm_fr [79, 80, 81, 82] V0 V20 → V20 78 0 = 79 → V20 78 1 = 81 → (Int.toNat (60 - x18)) = N27 → pm_J X 17 [(0, (3, 78)), (1, (3, 87)), (2, (3, 84)), (3, (0, a1)), (4, (0, x18))] [] 118 V20 := by
    intro N27
    induction N27 using Nat.strongRecOn with
    | _ N27 ih28 =>
    intro x18 V20 b19 hV21 hF22 e23 e24 hm26
    refine pm_iload hC 4 dX4_compareExactly_17 rfl ?_
    refine pm_iload_n hC 3 dX4_compareExactly_19 rfl ?_
    refine pm_icmp_ge (tgt := 119) hC ⟨by omega, by omega⟩ ⟨by omega, by omega⟩ dX4_compareExactly_20 (by decide) (fun c29 => ?_) (fun c29 => ?_)
    · skip
      refine pm_aload_n hC 0 (by decide) dX4_compareExactly_119 rfl ?_
      refine pm_getf (v := 79) hC 78 fl_X4_10 rfl rfl (by decide) rfl e23 dX4_compareExactly_120 ?_
      refine pm_aload_n hC 0 (by decide) dX4_compareExactly_123 rfl ?_
      refine pm_getf (v := 81) hC 78 fl_X4_16 rfl rfl (by decide) rfl e24 dX4_compareExactly_124 ?_
      refine pm_callV (ci := 1) (as := [(3, 81)]) (st := []) hC 79 c_X1_compareWith_79_81 lm_X4_69 li_X1_compareWith (by decide) (by decide) rfl rfl rfl (by decide) rfl rfl (Nat.le_of_ble_eq_true rfl) ⟨Nat.le_refl _, Or.inl rfl⟩ dX4_compareExactly_127 ⟨rfl, hV21⟩ (fun r30 V31 hp32 => ?_)
      obtain ⟨y33, rfl, b34, rfl⟩ := hp32
      change pm_J X 130 [(0, (3, 78)), (1, (3, 87)), (2, (3, 84)), (3, (0, a1)), (4, (0, x18))] [(0, y33)] 118 V20
      exact pm_iret hC hR pm_nar0 ⟨y33, rfl, ⟨by omega, by omega⟩, hV21, hF22⟩ dX4_compareExactly_130
    · skip
      refine pm_aload_n hC 1 (by decide) dX4_compareExactly_23 rfl ?_
      have e35 : V20 87 1 = 88 := hV21.one 87 1 (by decide) (by decide) rfl
      refine pm_getf (v := 88) hC 87 fl_X4_51 rfl rfl (by decide) rfl e35 dX4_compareExactly_24 ?_
      refine pm_iload hC 4 dX4_compareExactly_27 rfl ?_
      obtain ⟨y36, e37⟩ : ∃ y, V20 88 (x18 : Int).toNat = y := ⟨_, rfl⟩
      have b38 := hV21.get 88 (x18 : Int).toNat (lo := (-9223372036854775808)) (hi := 9223372036854775807) (by decide) (show _ < 60 by omega) rfl
      rw [e37] at b38
      refine pm_laload (len := 60) (v := y36) hC 88 rfl rfl (by decide) ⟨by omega, by omega⟩ (by decide) e37 dX4_compareExactly_29 ?_
      refine pm_aload_n hC 2 (by decide) dX4_compareExactly_30 rfl ?_
      have e39 : V20 84 2 = 86 := hV21.one 84 2 (by decide) (by decide) rfl
      refine pm_getf (v := 86) hC 84 fl_X4_55 rfl rfl (by decide) rfl e39 dX4_compareExactly_31 ?_
      refine pm_iload hC 4 dX4_compareExactly_34 rfl ?_
      obtain ⟨y40, e41⟩ : ∃ y, V20 86 (x18 : Int).toNat = y := ⟨_, rfl⟩
      have b42 := hV21.get 86 (x18 : Int).toNat (lo := (-9223372036854775808)) (hi := 9223372036854775807) (by decide) (show _ < 60 by omega) rfl
      rw [e41] at b42
      refine pm_laload (len := 60) (v := y40) hC 86 rfl rfl (by decide) ⟨by omega, by omega⟩ (by decide) e41 dX4_compareExactly_36 ?_
      refine pm_lmul hC dX4_compareExactly_37 ?_
      refine pm_someL hC (fun y43 b44 => ?_)
      have b44 := And.intro b44.1 b44.2
      refine pm_aload_n hC 2 (by decide) dX4_compareExactly_38 rfl ?_
      have e45 : V20 84 1 = 85 := hV21.one 84 1 (by decide) (by decide) rfl
      refine pm_getf (v := 85) hC 84 fl_X4_51 rfl rfl (by decide) rfl e45 dX4_compareExactly_39 ?_
      refine pm_iload hC 4 dX4_compareExactly_42 rfl ?_
      obtain ⟨y46, e47⟩ : ∃ y, V20 85 (x18 : Int).toNat = y := ⟨_, rfl⟩
      have b48 := hV21.get 85 (x18 : Int).toNat (lo := (-9223372036854775808)) (hi := 9223372036854775807) (by decide) (show _ < 60 by omega) rfl
      rw [e47] at b48
      refine pm_laload (len := 60) (v := y46) hC 85 rfl rfl (by decide) ⟨by omega, by omega⟩ (by decide) e47 dX4_compareExactly_44 ?_
      refine pm_aload_n hC 1 (by decide) dX4_compareExactly_45 rfl ?_
      have e49 : V20 87 2 = 89 := hV21.one 87 2 (by decide) (by decide) rfl
      refine pm_getf (v := 89) hC 87 fl_X4_55 rfl rfl (by decide) rfl e49 dX4_compareExactly_46 ?_
      refine pm_iload hC 4 dX4_compareExactly_49 rfl ?_
      obtain ⟨y50, e51⟩ : ∃ y, V20 89 (x18 : Int).toNat = y := ⟨_, rfl⟩
      have b52 := hV21.get 89 (x18 : Int).toNat (lo := (-9223372036854775808)) (hi := 9223372036854775807) (by decide) (show _ < 60 by omega) rfl
      rw [e51] at b52
      refine pm_laload (len := 60) (v := y50) hC 89 rfl rfl (by decide) ⟨by omega, by omega⟩ (by decide) e51 dX4_compareExactly_51 ?_
      refine pm_lmul hC dX4_compareExactly_52 ?_
      refine pm_someL hC (fun y53 b54 => ?_)
      have b54 := And.intro b54.1 b54.2
      refine pm_lcmp hC ⟨by omega, by omega⟩ ⟨by omega, by omega⟩ dX4_compareExactly_53 (fun y55 b56 => ?_)
      refine pm_if_eq (tgt := 113) hC ⟨by omega, by omega⟩ dX4_compareExactly_54 (by decide) (fun c57 => ?_) (fun c57 => ?_)
      · skip
        obtain ⟨x58, ei59⟩ : ∃ y : Int, x18 + 1 = y := ⟨_, rfl⟩
        refine pm_iinc (y := x58) (lv' := [(4, (0, x58)), (0, (3, 78)), (1, (3, 87)), (2, (3, 84)), (3, (0, a1))]) hC 4 dX4_compareExactly_113 (by decide) rfl ei59 rfl ?_
        refine pm_goto (tgt := 17) hC dX4_compareExactly_116 (by decide) ?_
        refine pm_lvsub [1, 2, 3, 4, 0] (lv' := [(0, (3, 78)), (1, (3, 87)), (2, (3, 84)), (3, (0, a1)), (4, (0, x58))]) rfl ?_
        exact ih28 _ (by omega) x58 V20 ⟨by omega, by omega⟩ hV21 hF22 e23 e24 rfl
      · skip
        refine pm_aload_n hC 0 (by decide) dX4_compareExactly_57 rfl ?_
        refine pm_getf (v := 79) hC 78 fl_X4_10 rfl rfl (by decide) rfl e23 dX4_compareExactly_58 ?_
        refine pm_aload_n hC 1 (by decide) dX4_compareExactly_61 rfl ?_
        refine pm_getf (v := 88) hC 87 fl_X4_51 rfl rfl (by decide) rfl e35 dX4_compareExactly_62 ?_
        refine pm_iload hC 4 dX4_compareExactly_65 rfl ?_
        refine pm_laload (len := 60) (v := y36) hC 88 rfl rfl (by decide) ⟨by omega, by omega⟩ (by decide) e37 dX4_compareExactly_67 ?_
        refine pm_callV (ci := 1) (as := [(1, y36)]) (st := []) hC 79 (c_X1_times_79 y36 ⟨by omega, by omega⟩) lm_X4_65 li_X1_times (by decide) (by decide) rfl rfl rfl (by decide) rfl rfl (Nat.le_of_ble_eq_true rfl) ⟨Nat.le_refl _, Or.inl rfl⟩ dX4_compareExactly_68 ⟨rfl, hV21⟩ (fun r60 V61 hp62 => ?_)
        obtain ⟨rfl, hV63, hF64⟩ := hp62
        change pm_J X 71 [(0, (3, 78)), (1, (3, 87)), (2, (3, 84)), (3, (0, a1)), (4, (0, x18))] [] 118 V61
        have hF65 := pm_fr.tr hF22 hF64 (by decide)
        have e66 : V61 78 0 = 79 := by rw [hF64 78 (by decide)]; exact e23
        have e67 : V61 78 1 = 81 := by rw [hF64 78 (by decide)]; exact e24
        have e68 : V61 87 1 = 88 := by rw [hF64 87 (by decide)]; exact e35
        have e69 : V61 84 2 = 86 := by rw [hF64 84 (by decide)]; exact e39
        have e70 : V61 84 1 = 85 := by rw [hF64 84 (by decide)]; exact e45
        have e71 : V61 87 2 = 89 := by rw [hF64 87 (by decide)]; exact e49
        refine pm_aload_n hC 0 (by decide) dX4_compareExactly_71 rfl ?_
        refine pm_getf (v := 79) hC 78 fl_X4_10 rfl rfl (by decide) rfl e66 dX4_compareExactly_72 ?_
        refine pm_aload_n hC 2 (by decide) dX4_compareExactly_75 rfl ?_
        refine pm_getf (v := 86) hC 84 fl_X4_55 rfl rfl (by decide) rfl e69 dX4_compareExactly_76 ?_
        refine pm_iload hC 4 dX4_compareExactly_79 rfl ?_
        obtain ⟨y72, e73⟩ : ∃ y, V61 86 (x18 : Int).toNat = y := ⟨_, rfl⟩
        have b74 := hV63.get 86 (x18 : Int).toNat (lo := (-9223372036854775808)) (hi := 9223372036854775807) (by decide) (show _ < 60 by omega) rfl
        rw [e73] at b74
        refine pm_laload (len := 60) (v := y72) hC 86 rfl rfl (by decide) ⟨by omega, by omega⟩ (by decide) e73 dX4_compareExactly_81 ?_
        refine pm_callV (ci := 1) (as := [(1, y72)]) (st := []) hC 79 (c_X1_times_79 y72 ⟨by omega, by omega⟩) lm_X4_65 li_X1_times (by decide) (by decide) rfl rfl rfl (by decide) rfl rfl (Nat.le_of_ble_eq_true rfl) ⟨Nat.le_refl _, Or.inl rfl⟩ dX4_compareExactly_82 ⟨rfl, hV63⟩ (fun r75 V76 hp77 => ?_)
        obtain ⟨rfl, hV78, hF79⟩ := hp77
        change pm_J X 85 [(0, (3, 78)), (1, (3, 87)), (2, (3, 84)), (3, (0, a1)), (4, (0, x18))] [] 118 V76
        have hF80 := pm_fr.tr hF65 hF79 (by decide)
        have e81 : V76 78 0 = 79 := by rw [hF79 78 (by decide)]; exact e66
        have e82 : V76 78 1 = 81 := by rw [hF79 78 (by decide)]; exact e67
        have e83 : V76 87 1 = 88 := by rw [hF79 87 (by decide)]; exact e68
        have e84 : V76 84 2 = 86 := by rw [hF79 84 (by decide)]; exact e69
        have e85 : V76 84 1 = 85 := by rw [hF79 84 (by decide)]; exact e70
        have e86 : V76 87 2 = 89 := by rw [hF79 87 (by decide)]; exact e71
        refine pm_aload_n hC 0 (by decide) dX4_compareExactly_85 rfl ?_
        refine pm_getf (v := 81) hC 78 fl_X4_16 rfl rfl (by decide) rfl e82 dX4_compareExactly_86 ?_
        refine pm_aload_n hC 2 (by decide) dX4_compareExactly_89 rfl ?_
        refine pm_getf (v := 85) hC 84 fl_X4_51 rfl rfl (by decide) rfl e85 dX4_compareExactly_90 ?_
        refine pm_iload hC 4 dX4_compareExactly_93 rfl ?_
        obtain ⟨y87, e88⟩ : ∃ y, V76 85 (x18 : Int).toNat = y := ⟨_, rfl⟩
        have b89 := hV78.get 85 (x18 : Int).toNat (lo := (-9223372036854775808)) (hi := 9223372036854775807) (by decide) (show _ < 60 by omega) rfl
        rw [e88] at b89
        refine pm_laload (len := 60) (v := y87) hC 85 rfl rfl (by decide) ⟨by omega, by omega⟩ (by decide) e88 dX4_compareExactly_95 ?_
        refine pm_callV (ci := 1) (as := [(1, y87)]) (st := []) hC 81 (c_X1_times_81 y87 ⟨by omega, by omega⟩) lm_X4_65 li_X1_times (by decide) (by decide) rfl rfl rfl (by decide) rfl rfl (Nat.le_of_ble_eq_true rfl) ⟨Nat.le_refl _, Or.inl rfl⟩ dX4_compareExactly_96 ⟨rfl, hV78⟩ (fun r90 V91 hp92 => ?_)
        obtain ⟨rfl, hV93, hF94⟩ := hp92
        change pm_J X 99 [(0, (3, 78)), (1, (3, 87)), (2, (3, 84)), (3, (0, a1)), (4, (0, x18))] [] 118 V91
        have hF95 := pm_fr.tr hF80 hF94 (by decide)
        have e96 : V91 78 0 = 79 := by rw [hF94 78 (by decide)]; exact e81
        have e97 : V91 78 1 = 81 := by rw [hF94 78 (by decide)]; exact e82
        have e98 : V91 87 1 = 88 := by rw [hF94 87 (by decide)]; exact e83
        have e99 : V91 84 2 = 86 := by rw [hF94 84 (by decide)]; exact e84
        have e100 : V91 84 1 = 85 := by rw [hF94 84 (by decide)]; exact e85
        have e101 : V91 87 2 = 89 := by rw [hF94 87 (by decide)]; exact e86
        refine pm_aload_n hC 0 (by decide) dX4_compareExactly_99 rfl ?_
        refine pm_getf (v := 81) hC 78 fl_X4_16 rfl rfl (by decide) rfl e97 dX4_compareExactly_100 ?_
        refine pm_aload_n hC 1 (by decide) dX4_compareExactly_103 rfl ?_
        refine pm_getf (v := 89) hC 87 fl_X4_55 rfl rfl (by decide) rfl e101 dX4_compareExactly_104 ?_
        refine pm_iload hC 4 dX4_compareExactly_107 rfl ?_
        obtain ⟨y102, e103⟩ : ∃ y, V91 89 (x18 : Int).toNat = y := ⟨_, rfl⟩
        have b104 := hV93.get 89 (x18 : Int).toNat (lo := (-9223372036854775808)) (hi := 9223372036854775807) (by decide) (show _ < 60 by omega) rfl
        rw [e103] at b104
        refine pm_laload (len := 60) (v := y102) hC 89 rfl rfl (by decide) ⟨by omega, by omega⟩ (by decide) e103 dX4_compareExactly_109 ?_
        refine pm_callV (ci := 1) (as := [(1, y102)]) (st := []) hC 81 (c_X1_times_81 y102 ⟨by omega, by omega⟩) lm_X4_65 li_X1_times (by decide) (by decide) rfl rfl rfl (by decide) rfl rfl (Nat.le_of_ble_eq_true rfl) ⟨Nat.le_refl _, Or.inl rfl⟩ dX4_compareExactly_110 ⟨rfl, hV93⟩ (fun r105 V106 hp107 => ?_)
        obtain ⟨rfl, hV108, hF109⟩ := hp107
        change pm_J X 113 [(0, (3, 78)), (1, (3, 87)), (2, (3, 84)), (3, (0, a1)), (4, (0, x18))] [] 118 V106
        have hF110 := pm_fr.tr hF95 hF109 (by decide)
        have e111 : V106 78 0 = 79 := by rw [hF109 78 (by decide)]; exact e96
        have e112 : V106 78 1 = 81 := by rw [hF109 78 (by decide)]; exact e97
        have e113 : V106 87 1 = 88 := by rw [hF109 87 (by decide)]; exact e98
        have e114 : V106 84 2 = 86 := by rw [hF109 84 (by decide)]; exact e99
        have e115 : V106 84 1 = 85 := by rw [hF109 84 (by decide)]; exact e100
        have e116 : V106 87 2 = 89 := by rw [hF109 87 (by decide)]; exact e101
        obtain ⟨x117, ei118⟩ : ∃ y : Int, x18 + 1 = y := ⟨_, rfl⟩
        refine pm_iinc (y := x117) (lv' := [(4, (0, x117)), (0, (3, 78)), (1, (3, 87)), (2, (3, 84)), (3, (0, a1))]) hC 4 dX4_compareExactly_113 (by decide) rfl ei118 rfl ?_
        refine pm_goto (tgt := 17) hC dX4_compareExactly_116 (by decide) ?_
        refine pm_lvsub [1, 2, 3, 4, 0] (lv' := [(0, (3, 78)), (1, (3, 87)), (2, (3, 84)), (3, (0, a1)), (4, (0, x117))]) rfl ?_
        exact ih28 _ (by omega) x117 V106 ⟨by omega, by omega⟩ hV108 hF110 e111 e112 rfl
  refine pm_lvsub [1, 2, 3, 4, 0] (lv' := [(0, (3, 78)), (1, (3, 87)), (2, (3, 84)), (3, (0, a1)), (4, (0, 0))]) rfl ?_
  exact L25 _ 0 V11 ⟨by decide, by decide⟩ hV13 hF15 e16 e17 rfl
set_option maxHeartbeats 4000000 in
set_option maxRecDepth 100000 in
theorem c_X4_compareProducts_78_87_84  : pm_K 3 yX4_compareProducts cX4_compareProducts 8 (some .int) (fun av V => av = [(3, 78), (3, 87), (3, 84)] ∧ pm_ok 0 90 V) (fun _ V r V' => ∃ y, r = some (0, y) ∧ ((-1) ≤ y ∧ y ≤ 1) ∧ pm_ok 0 90 V' ∧ pm_fr [79, 80, 81, 82] V V') := by
  refine pm_MT.of (by decide) ⟨Nat.le_refl _, by decide⟩ (fun av V h => by rw [h.1]; exact (by decide : pm_words [(3, 0), (3, 0), (3, 0)] ≤ 8)) ?_
  rintro X av V0 hC - hR ⟨rfl, hV0⟩
  change pm_J X 0 [(0, (3, 78)), (1, (3, 87)), (2, (3, 84))] [] 118 V0
  refine pm_aload_n hC 1 (by decide) dX4_compareProducts_0 rfl ?_
  refine pm_callV (ci := 0) (as := []) (st := []) hC 87 c_X0_isNever_87 lm_X4_19 li_X0_isNever (by decide) (by decide) rfl rfl rfl (by decide) rfl rfl (Nat.le_of_ble_eq_true rfl) ⟨Nat.le_refl _, Or.inl rfl⟩ dX4_compareProducts_1 ⟨rfl, hV0⟩ (fun r1 V2 hp3 => ?_)
  obtain ⟨y4, rfl, b5, rfl⟩ := hp3
  change pm_J X 4 [(0, (3, 78)), (1, (3, 87)), (2, (3, 84))] [(0, y4)] 118 V0
  refine pm_istore_n (lv' := [(3, (0, y4)), (0, (3, 78)), (1, (3, 87)), (2, (3, 84))]) hC dX4_compareProducts_4 (by decide) rfl ?_
  refine pm_aload_n hC 3 (by decide) dX4_compareProducts_5 rfl ?_
  refine pm_callV (ci := 0) (as := []) (st := []) hC 84 c_X0_isNever_84 lm_X4_19 li_X0_isNever (by decide) (by decide) rfl rfl rfl (by decide) rfl rfl (Nat.le_of_ble_eq_true rfl) ⟨Nat.le_refl _, Or.inl rfl⟩ dX4_compareProducts_6 ⟨rfl, hV0⟩ (fun r6 V7 hp8 => ?_)
  obtain ⟨y9, rfl, b10, rfl⟩ := hp8
  change pm_J X 9 [(3, (0, y4)), (0, (3, 78)), (1, (3, 87)), (2, (3, 84))] [(0, y9)] 118 V0
  refine pm_istore (lv' := [(4, (0, y9)), (3, (0, y4)), (0, (3, 78)), (1, (3, 87)), (2, (3, 84))]) hC dX4_compareProducts_9 (by decide) rfl ?_
  refine pm_iload_n hC 1 dX4_compareProducts_11 rfl ?_
  refine pm_if_ne (tgt := 20) hC ⟨by omega, by omega⟩ dX4_compareProducts_12 (by decide) (fun c11 => ?_) (fun c11 => ?_)
  · skip
    refine pm_iload hC 0 dX4_compareProducts_20 rfl ?_
    refine pm_if_eq (tgt := 29) hC ⟨by omega, by omega⟩ dX4_compareProducts_22 (by decide) (fun c12 => ?_) (fun c12 => ?_)
    · skip
      refine pm_iconst (v := 0) hC dX4_compareProducts_29 ?_
      refine pm_iload_n hC 1 dX4_compareProducts_30 rfl ?_
      refine pm_if_eq (tgt := 38) hC ⟨by omega, by omega⟩ dX4_compareProducts_31 (by decide) (fun c13 => ?_) (fun c13 => ?_)
      · skip
        exfalso; omega
      · skip
        refine pm_iconst (v := 1) hC dX4_compareProducts_34 ?_
        refine pm_goto (tgt := 39) hC dX4_compareProducts_35 (by decide) ?_
        refine pm_isub hC dX4_compareProducts_39 ?_
        change pm_J X 40 [(4, (0, y9)), (3, (0, y4)), (0, (3, 78)), (1, (3, 87)), (2, (3, 84))] [(0, (-1))] 118 V0
        exact pm_iret hC hR pm_nar0 ⟨(-1), rfl, ⟨by omega, by omega⟩, hV0, (pm_fr.rf (ws := [79, 80, 81, 82]) (V := V0))⟩ dX4_compareProducts_40
    · skip
      refine pm_iconst (v := 1) hC dX4_compareProducts_25 ?_
      refine pm_goto (tgt := 30) hC dX4_compareProducts_26 (by decide) ?_
      refine pm_iload_n hC 1 dX4_compareProducts_30 rfl ?_
      refine pm_if_eq (tgt := 38) hC ⟨by omega, by omega⟩ dX4_compareProducts_31 (by decide) (fun c14 => ?_) (fun c14 => ?_)
      · skip
        exfalso; omega
      · skip
        refine pm_iconst (v := 1) hC dX4_compareProducts_34 ?_
        refine pm_goto (tgt := 39) hC dX4_compareProducts_35 (by decide) ?_
        refine pm_isub hC dX4_compareProducts_39 ?_
        change pm_J X 40 [(4, (0, y9)), (3, (0, y4)), (0, (3, 78)), (1, (3, 87)), (2, (3, 84))] [(0, 0)] 118 V0
        exact pm_iret hC hR pm_nar0 ⟨0, rfl, ⟨by omega, by omega⟩, hV0, (pm_fr.rf (ws := [79, 80, 81, 82]) (V := V0))⟩ dX4_compareProducts_40
  · skip
    refine pm_iload hC 0 dX4_compareProducts_15 rfl ?_
    refine pm_if_eq (tgt := 41) hC ⟨by omega, by omega⟩ dX4_compareProducts_17 (by decide) (fun c15 => ?_) (fun c15 => ?_)
    · skip
      refine pm_aload_n hC 3 (by decide) dX4_compareProducts_41 rfl ?_
      obtain ⟨y16, e17⟩ : ∃ y, V0 87 0 = y := ⟨_, rfl⟩
      have b18 := hV0.get 87 0 (lo := 0) (hi := 60) (by decide) (by decide) rfl
      rw [e17] at b18
      refine pm_getf (v := y16) hC 87 fl_X4_25 rfl rfl (by decide) rfl e17 dX4_compareProducts_42 ?_
      refine pm_aload_n hC 4 (by decide) dX4_compareProducts_45 rfl ?_
      obtain ⟨y19, e20⟩ : ∃ y, V0 84 0 = y := ⟨_, rfl⟩
      have b21 := hV0.get 84 0 (lo := 0) (hi := 60) (by decide) (by decide) rfl
      rw [e20] at b21
      refine pm_getf (v := y19) hC 84 fl_X4_25 rfl rfl (by decide) rfl e20 dX4_compareProducts_46 ?_
      refine pm_mmin hC 4159 4160 1018 4161 ⟨by omega, by omega⟩ ⟨by omega, by omega⟩ (by decide) wL_X4_29 wS_mmin wI_math wC_mmin (Nat.le_of_ble_eq_true rfl) dX4_compareProducts_49 (fun y22 b23 => ?_)
      refine pm_istore (lv' := [(5, (0, y22)), (4, (0, y9)), (3, (0, y4)), (0, (3, 78)), (1, (3, 87)), (2, (3, 84))]) hC dX4_compareProducts_52 (by decide) rfl ?_
      refine pm_aload_n hC 4 (by decide) dX4_compareProducts_54 rfl ?_
      refine pm_aload_n hC 5 (by decide) dX4_compareProducts_55 rfl ?_
      refine pm_iload hC 0 dX4_compareProducts_56 rfl ?_
      refine pm_callS (as := [(3, 87), (3, 84), (0, y22)]) (st := []) hC (c_X4_roughQuotient_87_84 y22 ⟨by omega, by omega⟩) lm_X4_35 ls_X4_roughQuotient (by decide) (by decide) rfl rfl (Nat.le_of_ble_eq_true rfl) ⟨Nat.le_refl _, Or.inl rfl⟩ dX4_compareProducts_58 ⟨rfl, hV0⟩ (fun r24 V25 hp26 => ?_)
      obtain ⟨y27, rfl, b28, rfl⟩ := hp26
      change pm_J X 61 [(5, (0, y22)), (4, (0, y9)), (3, (0, y4)), (0, (3, 78)), (1, (3, 87)), (2, (3, 84))] [(2, y27)] 118 V0
      refine pm_dstore (lv' := [(6, (2, y27)), (5, (0, y22)), (4, (0, y9)), (3, (0, y4)), (0, (3, 78)), (1, (3, 87)), (2, (3, 84))]) hC dX4_compareProducts_61 (by decide) rfl ?_
      refine pm_dload hC 0 dX4_compareProducts_63 rfl ?_
      refine pm_ldc2d (v := 4607182418804521008) hC 4171 dX4_compareProducts_65 (by decide +kernel) (fun r29 => ?_)
      refine pm_dcmp hC dX4_compareProducts_68 (fun y30 b31 => ?_)
      have b31 := And.intro b31.1 b31.2
      refine pm_if_le (tgt := 74) hC ⟨by omega, by omega⟩ dX4_compareProducts_69 (by decide) (fun c32 => ?_) (fun c32 => ?_)
      · skip
        refine pm_dload hC 0 dX4_compareProducts_74 rfl ?_
        refine pm_ldc2d (v := 4607182418791010209) hC 4172 dX4_compareProducts_76 (by decide +kernel) (fun r33 => ?_)
        refine pm_dcmp hC dX4_compareProducts_79 (fun y34 b35 => ?_)
        have b35 := And.intro b35.1 b35.2
        refine pm_if_ge (tgt := 85) hC ⟨by omega, by omega⟩ dX4_compareProducts_80 (by decide) (fun c36 => ?_) (fun c36 => ?_)
        · skip
          refine pm_aload_n hC 4 (by decide) dX4_compareProducts_85 rfl ?_
          refine pm_aload_n hC 5 (by decide) dX4_compareProducts_86 rfl ?_
          refine pm_aload_n hC 6 (by decide) dX4_compareProducts_87 rfl ?_
          refine pm_iload hC 1 dX4_compareProducts_88 rfl ?_
          refine pm_callV (ci := 4) (as := [(3, 87), (3, 84), (0, y22)]) (st := []) hC 78 (c_X4_compareExactly_78_87_84 y22 ⟨by omega, by omega⟩) lm_X4_43 li_X4_compareExactly (by decide) (by decide) rfl rfl rfl (by decide) rfl rfl (Nat.le_of_ble_eq_true rfl) ⟨Nat.le_refl _, Or.inl rfl⟩ dX4_compareProducts_90 ⟨rfl, hV0⟩ (fun r37 V38 hp39 => ?_)
          obtain ⟨y40, rfl, b41, hV42, hF43⟩ := hp39
          change pm_J X 93 [(6, (2, y27)), (5, (0, y22)), (4, (0, y9)), (3, (0, y4)), (0, (3, 78)), (1, (3, 87)), (2, (3, 84))] [(0, y40)] 118 V38
          have hF44 := pm_fr.tr (pm_fr.rf (ws := [79, 80, 81, 82]) (V := V0)) hF43 (by decide)
          have e45 : V38 87 0 = y16 := by rw [hF43 87 (by decide)]; exact e17
          have e46 : V38 84 0 = y19 := by rw [hF43 84 (by decide)]; exact e20
          exact pm_iret hC hR pm_nar0 ⟨y40, rfl, ⟨by omega, by omega⟩, hV42, hF44⟩ dX4_compareProducts_93
        · skip
          refine pm_iconst (v := (-1)) hC dX4_compareProducts_83 ?_
          exact pm_iret hC hR pm_nar0 ⟨(-1), rfl, ⟨by omega, by omega⟩, hV0, (pm_fr.rf (ws := [79, 80, 81, 82]) (V := V0))⟩ dX4_compareProducts_84
      · skip
        refine pm_iconst (v := 1) hC dX4_compareProducts_72 ?_
        exact pm_iret hC hR pm_nar0 ⟨1, rfl, ⟨by omega, by omega⟩, hV0, (pm_fr.rf (ws := [79, 80, 81, 82]) (V := V0))⟩ dX4_compareProducts_73
    · skip
      refine pm_iload hC 0 dX4_compareProducts_20 rfl ?_
      refine pm_if_eq (tgt := 29) hC ⟨by omega, by omega⟩ dX4_compareProducts_22 (by decide) (fun c47 => ?_) (fun c47 => ?_)
      · skip
        exfalso; omega
      · skip
        refine pm_iconst (v := 1) hC dX4_compareProducts_25 ?_
        refine pm_goto (tgt := 30) hC dX4_compareProducts_26 (by decide) ?_
        refine pm_iload_n hC 1 dX4_compareProducts_30 rfl ?_
        refine pm_if_eq (tgt := 38) hC ⟨by omega, by omega⟩ dX4_compareProducts_31 (by decide) (fun c48 => ?_) (fun c48 => ?_)
        · skip
          refine pm_iconst (v := 0) hC dX4_compareProducts_38 ?_
          refine pm_isub hC dX4_compareProducts_39 ?_
          change pm_J X 40 [(4, (0, y9)), (3, (0, y4)), (0, (3, 78)), (1, (3, 87)), (2, (3, 84))] [(0, 1)] 118 V0
          exact pm_iret hC hR pm_nar0 ⟨1, rfl, ⟨by omega, by omega⟩, hV0, (pm_fr.rf (ws := [79, 80, 81, 82]) (V := V0))⟩ dX4_compareProducts_40
        · skip
          exfalso; omega
set_option maxHeartbeats 4000000 in
set_option maxRecDepth 100000 in
theorem c_X4_factorOf_87_87 (a1 : Int) (h0 : 0 ≤ a1 ∧ a1 ≤ 119) : pm_K 1 yX4_factorOf cX4_factorOf 6 (some .long) (fun av V => av = [(3, 87), (3, 87), (0, a1)] ∧ pm_ok 0 90 V) (fun _ V r V' => ∃ y, r = some (1, y) ∧ (1 ≤ y ∧ y ≤ 9223372036854775807) ∧ V = V') := by
  refine pm_MT.of (by decide) ⟨Nat.le_refl _, by decide⟩ (fun av V h => by rw [h.1]; exact (by decide : pm_words [(3, 0), (3, 0), (0, 0)] ≤ 6)) ?_
  rintro X av V0 hC - hR ⟨rfl, hV0⟩
  change pm_J X 0 [(0, (3, 87)), (1, (3, 87)), (2, (0, a1))] [] 118 V0
  refine pm_iload_n hC 2 dX4_factorOf_0 rfl ?_
  refine pm_iconst (v := 2) hC dX4_factorOf_1 ?_
  refine pm_idiv hC ⟨by omega, by omega, by omega⟩ ⟨by decide, by decide, by decide⟩ dX4_factorOf_2 ?_
  refine pm_istore_n (lv' := [(3, (0, (a1 / 2))), (0, (3, 87)), (1, (3, 87)), (2, (0, a1))]) hC dX4_factorOf_3 (by decide) rfl ?_
  refine pm_iload_n hC 3 dX4_factorOf_4 rfl ?_
  refine pm_iconst (v := 2) hC dX4_factorOf_5 ?_
  refine pm_irem hC ⟨by omega, by omega, by omega⟩ ⟨by decide, by decide, by decide⟩ dX4_factorOf_6 ?_
  refine pm_if_ne (tgt := 19) hC ⟨by omega, by omega⟩ dX4_factorOf_7 (by decide) (fun c1 => ?_) (fun c1 => ?_)
  · skip
    refine pm_aload_n hC 2 (by decide) dX4_factorOf_19 rfl ?_
    have e2 : V0 87 2 = 89 := hV0.one 87 2 (by decide) (by decide) rfl
    refine pm_getf (v := 89) hC 87 fl_X4_55 rfl rfl (by decide) rfl e2 dX4_factorOf_20 ?_
    refine pm_iload_n hC 0 dX4_factorOf_23 rfl ?_
    obtain ⟨y3, e4⟩ : ∃ y, V0 89 ((a1 / 2) : Int).toNat = y := ⟨_, rfl⟩
    have b5 := hV0.get 89 ((a1 / 2) : Int).toNat (lo := (-9223372036854775808)) (hi := 9223372036854775807) (by decide) (show _ < 60 by omega) rfl
    rw [e4] at b5
    refine pm_laload (len := 60) (v := y3) hC 89 rfl rfl (by decide) ⟨by omega, by omega⟩ (by decide) e4 dX4_factorOf_24 ?_
    refine pm_lstore (lv' := [(4, (1, y3)), (3, (0, (a1 / 2))), (0, (3, 87)), (1, (3, 87)), (2, (0, a1))]) hC dX4_factorOf_25 (by decide) rfl ?_
    refine pm_lconst (x := 1) hC dX4_factorOf_27 rfl ?_
    refine pm_lload hC 0 dX4_factorOf_28 rfl ?_
    refine pm_mmaxL hC 4168 4169 1018 4170 ⟨by decide, by decide⟩ ⟨by omega, by omega⟩ (by decide) wL_X4_58 wS_mmaxL wI_math wC_mmaxL (Nat.le_of_ble_eq_true rfl) dX4_factorOf_30 (fun y6 b7 => ?_)
    exact pm_lret hC hR ⟨y6, rfl, ⟨by omega, by omega⟩, rfl⟩ dX4_factorOf_33
  · skip
    refine pm_aload_n hC 1 (by decide) dX4_factorOf_10 rfl ?_
    have e8 : V0 87 1 = 88 := hV0.one 87 1 (by decide) (by decide) rfl
    refine pm_getf (v := 88) hC 87 fl_X4_51 rfl rfl (by decide) rfl e8 dX4_factorOf_11 ?_
    refine pm_iload_n hC 0 dX4_factorOf_14 rfl ?_
    obtain ⟨y9, e10⟩ : ∃ y, V0 88 ((a1 / 2) : Int).toNat = y := ⟨_, rfl⟩
    have b11 := hV0.get 88 ((a1 / 2) : Int).toNat (lo := (-9223372036854775808)) (hi := 9223372036854775807) (by decide) (show _ < 60 by omega) rfl
    rw [e10] at b11
    refine pm_laload (len := 60) (v := y9) hC 88 rfl rfl (by decide) ⟨by omega, by omega⟩ (by decide) e10 dX4_factorOf_15 ?_
    refine pm_goto (tgt := 25) hC dX4_factorOf_16 (by decide) ?_
    refine pm_lstore (lv' := [(4, (1, y9)), (3, (0, (a1 / 2))), (0, (3, 87)), (1, (3, 87)), (2, (0, a1))]) hC dX4_factorOf_25 (by decide) rfl ?_
    refine pm_lconst (x := 1) hC dX4_factorOf_27 rfl ?_
    refine pm_lload hC 0 dX4_factorOf_28 rfl ?_
    refine pm_mmaxL hC 4168 4169 1018 4170 ⟨by decide, by decide⟩ ⟨by omega, by omega⟩ (by decide) wL_X4_58 wS_mmaxL wI_math wC_mmaxL (Nat.le_of_ble_eq_true rfl) dX4_factorOf_30 (fun y12 b13 => ?_)
    exact pm_lret hC hR ⟨y12, rfl, ⟨by omega, by omega⟩, rfl⟩ dX4_factorOf_33
set_option maxHeartbeats 4000000 in
set_option maxRecDepth 100000 in
theorem c_X4_roughQuotient_87_87 (a1 : Int) (h0 : 0 ≤ a1 ∧ a1 ≤ 60) : pm_K 2 yX4_roughQuotient cX4_roughQuotient 9 (some .double) (fun av V => av = [(3, 87), (3, 87), (0, a1)] ∧ pm_ok 0 90 V) (fun _ V r V' => ∃ y, r = some (2, y) ∧ True ∧ V = V') := by
  refine pm_MT.of (by decide) ⟨Nat.le_refl _, by decide⟩ (fun av V h => by rw [h.1]; exact (by decide : pm_words [(3, 0), (3, 0), (0, 0)] ≤ 9)) ?_
  rintro X av V0 hC - hR ⟨rfl, hV0⟩
  change pm_J X 0 [(0, (3, 87)), (1, (3, 87)), (2, (0, a1))] [] 118 V0
  refine pm_dconst1 hC dX4_roughQuotient_0 (fun r1 => ?_)
  refine pm_dstore_n (lv' := [(3, (2, r1)), (0, (3, 87)), (1, (3, 87)), (2, (0, a1))]) hC dX4_roughQuotient_1 (by decide) rfl ?_
  refine pm_iconst (v := 0) hC dX4_roughQuotient_2 ?_
  refine pm_istore (lv' := [(5, (0, 0)), (3, (2, r1)), (0, (3, 87)), (1, (3, 87)), (2, (0, a1))]) hC dX4_roughQuotient_3 (by decide) rfl ?_
  refine pm_iconst (v := 0) hC dX4_roughQuotient_5 ?_
  refine pm_istore (lv' := [(6, (0, 0)), (5, (0, 0)), (3, (2, r1)), (0, (3, 87)), (1, (3, 87)), (2, (0, a1))]) hC dX4_roughQuotient_6 (by decide) rfl ?_
  refine pm_iconst (v := 0) hC dX4_roughQuotient_8 ?_
  refine pm_istore (lv' := [(7, (0, 0)), (6, (0, 0)), (5, (0, 0)), (3, (2, r1)), (0, (3, 87)), (1, (3, 87)), (2, (0, a1))]) hC dX4_roughQuotient_9 (by decide) rfl ?_
  have L12 : ∀ (N14 : Nat) (x2 : Int) (x3 : Int) (x5 : Int) (x7 : Int), (0 ≤ x3 ∧ x3 ≤ 120) → (0 ≤ x5 ∧ x5 ≤ 120) → (0 ≤ x7 ∧ x7 ≤ 240) → (x3 + x5 = x7) → (x3 ≤ 2 * a1) → (x5 ≤ 2 * a1) → (Int.toNat (240 - x7)) = N14 → pm_J X 11 [(0, (3, 87)), (1, (3, 87)), (2, (0, a1)), (3, (2, x2)), (5, (0, x3)), (6, (0, x5)), (7, (0, x7))] [] 118 V0 := by
    intro N14
    induction N14 using Nat.strongRecOn with
    | _ N14 ih15 =>
    intro x2 x3 x5 x7 b4 b6 b8 b9 b10 b11 hm13
    refine pm_iload hC 6 dX4_roughQuotient_11 rfl ?_
    refine pm_iconst (v := 4) hC dX4_roughQuotient_13 ?_
    refine pm_iload_n hC 2 dX4_roughQuotient_14 rfl ?_
    refine pm_imul hC dX4_roughQuotient_15 ?_
    refine pm_icmp_ge (tgt := 90) hC ⟨by omega, by omega⟩ ⟨by omega, by omega⟩ dX4_roughQuotient_16 (by decide) (fun c16 => ?_) (fun c16 => ?_)
    · skip
      refine pm_dload_n hC 3 dX4_roughQuotient_90 rfl ?_
      exact pm_dret hC hR ⟨x2, rfl, trivial, rfl⟩ dX4_roughQuotient_91
    · skip
      refine pm_iload hC 5 dX4_roughQuotient_19 rfl ?_
      refine pm_iconst (v := 2) hC dX4_roughQuotient_21 ?_
      refine pm_iload_n hC 2 dX4_roughQuotient_22 rfl ?_
      refine pm_imul hC dX4_roughQuotient_23 ?_
      refine pm_icmp_ge (tgt := 41) hC ⟨by omega, by omega⟩ ⟨by omega, by omega⟩ dX4_roughQuotient_24 (by decide) (fun c17 => ?_) (fun c17 => ?_)
      · skip
        refine pm_iconst (v := 1) hC dX4_roughQuotient_41 ?_
        refine pm_goto (tgt := 46) hC dX4_roughQuotient_42 (by decide) ?_
        refine pm_istore (lv' := [(8, (0, 1)), (0, (3, 87)), (1, (3, 87)), (2, (0, a1)), (3, (2, x2)), (5, (0, x3)), (6, (0, x5)), (7, (0, x7))]) hC dX4_roughQuotient_46 (by decide) rfl ?_
        refine pm_iload hC 0 dX4_roughQuotient_48 rfl ?_
        refine pm_if_eq (tgt := 70) hC ⟨by decide, by decide⟩ dX4_roughQuotient_50 (by decide) (fun c18 => ?_) (fun c18 => ?_)
        · skip
          exfalso; omega
        · skip
          refine pm_dload_n hC 4 dX4_roughQuotient_53 rfl ?_
          refine pm_aload_n hC 1 (by decide) dX4_roughQuotient_54 rfl ?_
          refine pm_aload_n hC 2 (by decide) dX4_roughQuotient_55 rfl ?_
          refine pm_iload hC 5 dX4_roughQuotient_56 rfl ?_
          refine pm_callS (as := [(3, 87), (3, 87), (0, x3)]) (st := [(2, x2)]) hC (c_X4_factorOf_87_87 x3 ⟨by omega, by omega⟩) lm_X4_47 ls_X4_factorOf (by decide) (by decide) rfl rfl (Nat.le_of_ble_eq_true rfl) ⟨Nat.le_refl _, Or.inl rfl⟩ dX4_roughQuotient_58 ⟨rfl, hV0⟩ (fun r19 V20 hp21 => ?_)
          obtain ⟨y22, rfl, b23, rfl⟩ := hp21
          change pm_J X 61 [(8, (0, 1)), (0, (3, 87)), (1, (3, 87)), (2, (0, a1)), (3, (2, x2)), (5, (0, x3)), (6, (0, x5)), (7, (0, x7))] [(1, y22), (2, x2)] 118 V0
          refine pm_l2d hC dX4_roughQuotient_61 (fun r24 => ?_)
          refine pm_dmul hC dX4_roughQuotient_62 (fun r25 => ?_)
          refine pm_dstore_n (lv' := [(3, (2, r25)), (8, (0, 1)), (0, (3, 87)), (1, (3, 87)), (2, (0, a1)), (5, (0, x3)), (6, (0, x5)), (7, (0, x7))]) hC dX4_roughQuotient_63 (by decide) rfl ?_
          obtain ⟨x26, ei27⟩ : ∃ y : Int, x3 + 1 = y := ⟨_, rfl⟩
          refine pm_iinc (y := x26) (lv' := [(5, (0, x26)), (3, (2, r25)), (8, (0, 1)), (0, (3, 87)), (1, (3, 87)), (2, (0, a1)), (6, (0, x5)), (7, (0, x7))]) hC 5 dX4_roughQuotient_64 (by decide) rfl ei27 rfl ?_
          refine pm_goto (tgt := 84) hC dX4_roughQuotient_67 (by decide) ?_
          obtain ⟨x28, ei29⟩ : ∃ y : Int, x7 + 1 = y := ⟨_, rfl⟩
          refine pm_iinc (y := x28) (lv' := [(7, (0, x28)), (5, (0, x26)), (3, (2, r25)), (8, (0, 1)), (0, (3, 87)), (1, (3, 87)), (2, (0, a1)), (6, (0, x5))]) hC 7 dX4_roughQuotient_84 (by decide) rfl ei29 rfl ?_
          refine pm_goto (tgt := 11) hC dX4_roughQuotient_87 (by decide) ?_
          refine pm_lvsub [4, 5, 6, 2, 1, 7, 0] (lv' := [(0, (3, 87)), (1, (3, 87)), (2, (0, a1)), (3, (2, r25)), (5, (0, x26)), (6, (0, x5)), (7, (0, x28))]) rfl ?_
          exact ih15 _ (by omega) r25 x26 x5 x28 ⟨by omega, by omega⟩ ⟨by omega, by omega⟩ ⟨by omega, by omega⟩ (by omega) (by omega) (by omega) rfl
      · skip
        refine pm_iload hC 4 dX4_roughQuotient_27 rfl ?_
        refine pm_iconst (v := 2) hC dX4_roughQuotient_29 ?_
        refine pm_iload_n hC 2 dX4_roughQuotient_30 rfl ?_
        refine pm_imul hC dX4_roughQuotient_31 ?_
        refine pm_icmp_ge (tgt := 45) hC ⟨by omega, by omega⟩ ⟨by omega, by omega⟩ dX4_roughQuotient_32 (by decide) (fun c30 => ?_) (fun c30 => ?_)
        · skip
          refine pm_iconst (v := 0) hC dX4_roughQuotient_45 ?_
          refine pm_istore (lv' := [(8, (0, 0)), (0, (3, 87)), (1, (3, 87)), (2, (0, a1)), (3, (2, x2)), (5, (0, x3)), (6, (0, x5)), (7, (0, x7))]) hC dX4_roughQuotient_46 (by decide) rfl ?_
          refine pm_iload hC 0 dX4_roughQuotient_48 rfl ?_
          refine pm_if_eq (tgt := 70) hC ⟨by decide, by decide⟩ dX4_roughQuotient_50 (by decide) (fun c31 => ?_) (fun c31 => ?_)
          · skip
            refine pm_dload_n hC 4 dX4_roughQuotient_70 rfl ?_
            refine pm_aload_n hC 2 (by decide) dX4_roughQuotient_71 rfl ?_
            refine pm_aload_n hC 1 (by decide) dX4_roughQuotient_72 rfl ?_
            refine pm_iload hC 6 dX4_roughQuotient_73 rfl ?_
            refine pm_callS (as := [(3, 87), (3, 87), (0, x5)]) (st := [(2, x2)]) hC (c_X4_factorOf_87_87 x5 ⟨by omega, by omega⟩) lm_X4_47 ls_X4_factorOf (by decide) (by decide) rfl rfl (Nat.le_of_ble_eq_true rfl) ⟨Nat.le_refl _, Or.inl rfl⟩ dX4_roughQuotient_75 ⟨rfl, hV0⟩ (fun r32 V33 hp34 => ?_)
            obtain ⟨y35, rfl, b36, rfl⟩ := hp34
            change pm_J X 78 [(8, (0, 0)), (0, (3, 87)), (1, (3, 87)), (2, (0, a1)), (3, (2, x2)), (5, (0, x3)), (6, (0, x5)), (7, (0, x7))] [(1, y35), (2, x2)] 118 V0
            refine pm_l2d hC dX4_roughQuotient_78 (fun r37 => ?_)
            refine pm_ddiv hC dX4_roughQuotient_79 (fun r38 => ?_)
            refine pm_dstore_n (lv' := [(3, (2, r38)), (8, (0, 0)), (0, (3, 87)), (1, (3, 87)), (2, (0, a1)), (5, (0, x3)), (6, (0, x5)), (7, (0, x7))]) hC dX4_roughQuotient_80 (by decide) rfl ?_
            obtain ⟨x39, ei40⟩ : ∃ y : Int, x5 + 1 = y := ⟨_, rfl⟩
            refine pm_iinc (y := x39) (lv' := [(6, (0, x39)), (3, (2, r38)), (8, (0, 0)), (0, (3, 87)), (1, (3, 87)), (2, (0, a1)), (5, (0, x3)), (7, (0, x7))]) hC 6 dX4_roughQuotient_81 (by decide) rfl ei40 rfl ?_
            obtain ⟨x41, ei42⟩ : ∃ y : Int, x7 + 1 = y := ⟨_, rfl⟩
            refine pm_iinc (y := x41) (lv' := [(7, (0, x41)), (6, (0, x39)), (3, (2, r38)), (8, (0, 0)), (0, (3, 87)), (1, (3, 87)), (2, (0, a1)), (5, (0, x3))]) hC 7 dX4_roughQuotient_84 (by decide) rfl ei42 rfl ?_
            refine pm_goto (tgt := 11) hC dX4_roughQuotient_87 (by decide) ?_
            refine pm_lvsub [4, 5, 6, 2, 7, 1, 0] (lv' := [(0, (3, 87)), (1, (3, 87)), (2, (0, a1)), (3, (2, r38)), (5, (0, x3)), (6, (0, x39)), (7, (0, x41))]) rfl ?_
            exact ih15 _ (by omega) r38 x3 x39 x41 ⟨by omega, by omega⟩ ⟨by omega, by omega⟩ ⟨by omega, by omega⟩ (by omega) (by omega) (by omega) rfl
          · skip
            exfalso; omega
        · skip
          refine pm_dload_n hC 3 dX4_roughQuotient_35 rfl ?_
          refine pm_dconst1 hC dX4_roughQuotient_36 (fun r43 => ?_)
          refine pm_dcmp hC dX4_roughQuotient_37 (fun y44 b45 => ?_)
          have b45 := And.intro b45.1 b45.2
          refine pm_if_gt (tgt := 45) hC ⟨by omega, by omega⟩ dX4_roughQuotient_38 (by decide) (fun c46 => ?_) (fun c46 => ?_)
          · skip
            refine pm_iconst (v := 0) hC dX4_roughQuotient_45 ?_
            refine pm_istore (lv' := [(8, (0, 0)), (0, (3, 87)), (1, (3, 87)), (2, (0, a1)), (3, (2, x2)), (5, (0, x3)), (6, (0, x5)), (7, (0, x7))]) hC dX4_roughQuotient_46 (by decide) rfl ?_
            refine pm_iload hC 0 dX4_roughQuotient_48 rfl ?_
            refine pm_if_eq (tgt := 70) hC ⟨by decide, by decide⟩ dX4_roughQuotient_50 (by decide) (fun c47 => ?_) (fun c47 => ?_)
            · skip
              refine pm_dload_n hC 4 dX4_roughQuotient_70 rfl ?_
              refine pm_aload_n hC 2 (by decide) dX4_roughQuotient_71 rfl ?_
              refine pm_aload_n hC 1 (by decide) dX4_roughQuotient_72 rfl ?_
              refine pm_iload hC 6 dX4_roughQuotient_73 rfl ?_
              refine pm_callS (as := [(3, 87), (3, 87), (0, x5)]) (st := [(2, x2)]) hC (c_X4_factorOf_87_87 x5 ⟨by omega, by omega⟩) lm_X4_47 ls_X4_factorOf (by decide) (by decide) rfl rfl (Nat.le_of_ble_eq_true rfl) ⟨Nat.le_refl _, Or.inl rfl⟩ dX4_roughQuotient_75 ⟨rfl, hV0⟩ (fun r48 V49 hp50 => ?_)
              obtain ⟨y51, rfl, b52, rfl⟩ := hp50
              change pm_J X 78 [(8, (0, 0)), (0, (3, 87)), (1, (3, 87)), (2, (0, a1)), (3, (2, x2)), (5, (0, x3)), (6, (0, x5)), (7, (0, x7))] [(1, y51), (2, x2)] 118 V0
              refine pm_l2d hC dX4_roughQuotient_78 (fun r53 => ?_)
              refine pm_ddiv hC dX4_roughQuotient_79 (fun r54 => ?_)
              refine pm_dstore_n (lv' := [(3, (2, r54)), (8, (0, 0)), (0, (3, 87)), (1, (3, 87)), (2, (0, a1)), (5, (0, x3)), (6, (0, x5)), (7, (0, x7))]) hC dX4_roughQuotient_80 (by decide) rfl ?_
              obtain ⟨x55, ei56⟩ : ∃ y : Int, x5 + 1 = y := ⟨_, rfl⟩
              refine pm_iinc (y := x55) (lv' := [(6, (0, x55)), (3, (2, r54)), (8, (0, 0)), (0, (3, 87)), (1, (3, 87)), (2, (0, a1)), (5, (0, x3)), (7, (0, x7))]) hC 6 dX4_roughQuotient_81 (by decide) rfl ei56 rfl ?_
              obtain ⟨x57, ei58⟩ : ∃ y : Int, x7 + 1 = y := ⟨_, rfl⟩
              refine pm_iinc (y := x57) (lv' := [(7, (0, x57)), (6, (0, x55)), (3, (2, r54)), (8, (0, 0)), (0, (3, 87)), (1, (3, 87)), (2, (0, a1)), (5, (0, x3))]) hC 7 dX4_roughQuotient_84 (by decide) rfl ei58 rfl ?_
              refine pm_goto (tgt := 11) hC dX4_roughQuotient_87 (by decide) ?_
              refine pm_lvsub [4, 5, 6, 2, 7, 1, 0] (lv' := [(0, (3, 87)), (1, (3, 87)), (2, (0, a1)), (3, (2, r54)), (5, (0, x3)), (6, (0, x55)), (7, (0, x57))]) rfl ?_
              exact ih15 _ (by omega) r54 x3 x55 x57 ⟨by omega, by omega⟩ ⟨by omega, by omega⟩ ⟨by omega, by omega⟩ (by omega) (by omega) (by omega) rfl
            · skip
              exfalso; omega
          · skip
            refine pm_iconst (v := 1) hC dX4_roughQuotient_41 ?_
            refine pm_goto (tgt := 46) hC dX4_roughQuotient_42 (by decide) ?_
            refine pm_istore (lv' := [(8, (0, 1)), (0, (3, 87)), (1, (3, 87)), (2, (0, a1)), (3, (2, x2)), (5, (0, x3)), (6, (0, x5)), (7, (0, x7))]) hC dX4_roughQuotient_46 (by decide) rfl ?_
            refine pm_iload hC 0 dX4_roughQuotient_48 rfl ?_
            refine pm_if_eq (tgt := 70) hC ⟨by decide, by decide⟩ dX4_roughQuotient_50 (by decide) (fun c59 => ?_) (fun c59 => ?_)
            · skip
              exfalso; omega
            · skip
              refine pm_dload_n hC 4 dX4_roughQuotient_53 rfl ?_
              refine pm_aload_n hC 1 (by decide) dX4_roughQuotient_54 rfl ?_
              refine pm_aload_n hC 2 (by decide) dX4_roughQuotient_55 rfl ?_
              refine pm_iload hC 5 dX4_roughQuotient_56 rfl ?_
              refine pm_callS (as := [(3, 87), (3, 87), (0, x3)]) (st := [(2, x2)]) hC (c_X4_factorOf_87_87 x3 ⟨by omega, by omega⟩) lm_X4_47 ls_X4_factorOf (by decide) (by decide) rfl rfl (Nat.le_of_ble_eq_true rfl) ⟨Nat.le_refl _, Or.inl rfl⟩ dX4_roughQuotient_58 ⟨rfl, hV0⟩ (fun r60 V61 hp62 => ?_)
              obtain ⟨y63, rfl, b64, rfl⟩ := hp62
              change pm_J X 61 [(8, (0, 1)), (0, (3, 87)), (1, (3, 87)), (2, (0, a1)), (3, (2, x2)), (5, (0, x3)), (6, (0, x5)), (7, (0, x7))] [(1, y63), (2, x2)] 118 V0
              refine pm_l2d hC dX4_roughQuotient_61 (fun r65 => ?_)
              refine pm_dmul hC dX4_roughQuotient_62 (fun r66 => ?_)
              refine pm_dstore_n (lv' := [(3, (2, r66)), (8, (0, 1)), (0, (3, 87)), (1, (3, 87)), (2, (0, a1)), (5, (0, x3)), (6, (0, x5)), (7, (0, x7))]) hC dX4_roughQuotient_63 (by decide) rfl ?_
              obtain ⟨x67, ei68⟩ : ∃ y : Int, x3 + 1 = y := ⟨_, rfl⟩
              refine pm_iinc (y := x67) (lv' := [(5, (0, x67)), (3, (2, r66)), (8, (0, 1)), (0, (3, 87)), (1, (3, 87)), (2, (0, a1)), (6, (0, x5)), (7, (0, x7))]) hC 5 dX4_roughQuotient_64 (by decide) rfl ei68 rfl ?_
              refine pm_goto (tgt := 84) hC dX4_roughQuotient_67 (by decide) ?_
              obtain ⟨x69, ei70⟩ : ∃ y : Int, x7 + 1 = y := ⟨_, rfl⟩
              refine pm_iinc (y := x69) (lv' := [(7, (0, x69)), (5, (0, x67)), (3, (2, r66)), (8, (0, 1)), (0, (3, 87)), (1, (3, 87)), (2, (0, a1)), (6, (0, x5))]) hC 7 dX4_roughQuotient_84 (by decide) rfl ei70 rfl ?_
              refine pm_goto (tgt := 11) hC dX4_roughQuotient_87 (by decide) ?_
              refine pm_lvsub [4, 5, 6, 2, 1, 7, 0] (lv' := [(0, (3, 87)), (1, (3, 87)), (2, (0, a1)), (3, (2, r66)), (5, (0, x67)), (6, (0, x5)), (7, (0, x69))]) rfl ?_
              exact ih15 _ (by omega) r66 x67 x5 x69 ⟨by omega, by omega⟩ ⟨by omega, by omega⟩ ⟨by omega, by omega⟩ (by omega) (by omega) (by omega) rfl
  refine pm_lvsub [4, 5, 6, 3, 2, 1, 0] (lv' := [(0, (3, 87)), (1, (3, 87)), (2, (0, a1)), (3, (2, r1)), (5, (0, 0)), (6, (0, 0)), (7, (0, 0))]) rfl ?_
  exact L12 _ r1 0 0 0 ⟨by decide, by decide⟩ ⟨by decide, by decide⟩ ⟨by decide, by decide⟩ (by omega) (by omega) (by omega) rfl
set_option maxHeartbeats 4000000 in
set_option maxRecDepth 100000 in
theorem c_X4_compareExactly_78_87_87 (a1 : Int) (h0 : 0 ≤ a1 ∧ a1 ≤ 60) : pm_K 2 yX4_compareExactly cX4_compareExactly 5 (some .int) (fun av V => av = [(3, 78), (3, 87), (3, 87), (0, a1)] ∧ pm_ok 0 90 V) (fun _ V r V' => ∃ y, r = some (0, y) ∧ ((-1) ≤ y ∧ y ≤ 1) ∧ pm_ok 0 90 V' ∧ pm_fr [79, 80, 81, 82] V V') := by
  refine pm_MT.of (by decide) ⟨Nat.le_refl _, by decide⟩ (fun av V h => by rw [h.1]; exact (by decide : pm_words [(3, 0), (3, 0), (3, 0), (0, 0)] ≤ 5)) ?_
  rintro X av V0 hC - hR ⟨rfl, hV0⟩
  change pm_J X 0 [(0, (3, 78)), (1, (3, 87)), (2, (3, 87)), (3, (0, a1))] [] 118 V0
  refine pm_aload_n hC 0 (by decide) dX4_compareExactly_0 rfl ?_
  have e1 : V0 78 0 = 79 := hV0.one 78 0 (by decide) (by decide) rfl
  refine pm_getf (v := 79) hC 78 fl_X4_10 rfl rfl (by decide) rfl e1 dX4_compareExactly_1 ?_
  refine pm_callV (ci := 1) (as := []) (st := []) hC 79 c_X1_begin_79 lm_X4_62 li_X1_begin (by decide) (by decide) rfl rfl rfl (by decide) rfl rfl (Nat.le_of_ble_eq_true rfl) ⟨Nat.le_refl _, Or.inl rfl⟩ dX4_compareExactly_4 ⟨rfl, hV0⟩ (fun r2 V3 hp4 => ?_)
  obtain ⟨rfl, hV5, hF6⟩ := hp4
  change pm_J X 7 [(0, (3, 78)), (1, (3, 87)), (2, (3, 87)), (3, (0, a1))] [] 118 V3
  have hF7 := pm_fr.tr (pm_fr.rf (ws := [79, 80, 81, 82]) (V := V0)) hF6 (by decide)
  have e8 : V3 78 0 = 79 := by rw [hF6 78 (by decide)]; exact e1
  refine pm_aload_n hC 0 (by decide) dX4_compareExactly_7 rfl ?_
  have e9 : V3 78 1 = 81 := hV5.one 78 1 (by decide) (by decide) rfl
  refine pm_getf (v := 81) hC 78 fl_X4_16 rfl rfl (by decide) rfl e9 dX4_compareExactly_8 ?_
  refine pm_callV (ci := 1) (as := []) (st := []) hC 81 c_X1_begin_81 lm_X4_62 li_X1_begin (by decide) (by decide) rfl rfl rfl (by decide) rfl rfl (Nat.le_of_ble_eq_true rfl) ⟨Nat.le_refl _, Or.inl rfl⟩ dX4_compareExactly_11 ⟨rfl, hV5⟩ (fun r10 V11 hp12 => ?_)
  obtain ⟨rfl, hV13, hF14⟩ := hp12
  change pm_J X 14 [(0, (3, 78)), (1, (3, 87)), (2, (3, 87)), (3, (0, a1))] [] 118 V11
  have hF15 := pm_fr.tr hF7 hF14 (by decide)
  have e16 : V11 78 0 = 79 := by rw [hF14 78 (by decide)]; exact e8
  have e17 : V11 78 1 = 81 := by rw [hF14 78 (by decide)]; exact e9
  refine pm_iconst (v := 0) hC dX4_compareExactly_14 ?_
  refine pm_istore (lv' := [(4, (0, 0)), (0, (3, 78)), (1, (3, 87)), (2, (3, 87)), (3, (0, a1))]) hC dX4_compareExactly_15 (by decide) rfl ?_
  have L25 : ∀ (N27 : Nat) (x18 : Int) (V20 : pm_M), (0 ≤ x18 ∧ x18 ≤ 60) → pm_ok 0 90 V20 → pm_fr [79, 80, 81, 82] V0 V20 → V20 78 0 = 79 → V20 78 1 = 81 → (Int.toNat (60 - x18)) = N27 → pm_J X 17 [(0, (3, 78)), (1, (3, 87)), (2, (3, 87)), (3, (0, a1)), (4, (0, x18))] [] 118 V20 := by
    intro N27
    induction N27 using Nat.strongRecOn with
    | _ N27 ih28 =>
    intro x18 V20 b19 hV21 hF22 e23 e24 hm26
    refine pm_iload hC 4 dX4_compareExactly_17 rfl ?_
    refine pm_iload_n hC 3 dX4_compareExactly_19 rfl ?_
    refine pm_icmp_ge (tgt := 119) hC ⟨by omega, by omega⟩ ⟨by omega, by omega⟩ dX4_compareExactly_20 (by decide) (fun c29 => ?_) (fun c29 => ?_)
    · skip
      refine pm_aload_n hC 0 (by decide) dX4_compareExactly_119 rfl ?_
      refine pm_getf (v := 79) hC 78 fl_X4_10 rfl rfl (by decide) rfl e23 dX4_compareExactly_120 ?_
      refine pm_aload_n hC 0 (by decide) dX4_compareExactly_123 rfl ?_
      refine pm_getf (v := 81) hC 78 fl_X4_16 rfl rfl (by decide) rfl e24 dX4_compareExactly_124 ?_
      refine pm_callV (ci := 1) (as := [(3, 81)]) (st := []) hC 79 c_X1_compareWith_79_81 lm_X4_69 li_X1_compareWith (by decide) (by decide) rfl rfl rfl (by decide) rfl rfl (Nat.le_of_ble_eq_true rfl) ⟨Nat.le_refl _, Or.inl rfl⟩ dX4_compareExactly_127 ⟨rfl, hV21⟩ (fun r30 V31 hp32 => ?_)
      obtain ⟨y33, rfl, b34, rfl⟩ := hp32
      change pm_J X 130 [(0, (3, 78)), (1, (3, 87)), (2, (3, 87)), (3, (0, a1)), (4, (0, x18))] [(0, y33)] 118 V20
      exact pm_iret hC hR pm_nar0 ⟨y33, rfl, ⟨by omega, by omega⟩, hV21, hF22⟩ dX4_compareExactly_130
    · skip
      refine pm_aload_n hC 1 (by decide) dX4_compareExactly_23 rfl ?_
      have e35 : V20 87 1 = 88 := hV21.one 87 1 (by decide) (by decide) rfl
      refine pm_getf (v := 88) hC 87 fl_X4_51 rfl rfl (by decide) rfl e35 dX4_compareExactly_24 ?_
      refine pm_iload hC 4 dX4_compareExactly_27 rfl ?_
      obtain ⟨y36, e37⟩ : ∃ y, V20 88 (x18 : Int).toNat = y := ⟨_, rfl⟩
      have b38 := hV21.get 88 (x18 : Int).toNat (lo := (-9223372036854775808)) (hi := 9223372036854775807) (by decide) (show _ < 60 by omega) rfl
      rw [e37] at b38
      refine pm_laload (len := 60) (v := y36) hC 88 rfl rfl (by decide) ⟨by omega, by omega⟩ (by decide) e37 dX4_compareExactly_29 ?_
      refine pm_aload_n hC 2 (by decide) dX4_compareExactly_30 rfl ?_
      have e39 : V20 87 2 = 89 := hV21.one 87 2 (by decide) (by decide) rfl
      refine pm_getf (v := 89) hC 87 fl_X4_55 rfl rfl (by decide) rfl e39 dX4_compareExactly_31 ?_
      refine pm_iload hC 4 dX4_compareExactly_34 rfl ?_
      obtain ⟨y40, e41⟩ : ∃ y, V20 89 (x18 : Int).toNat = y := ⟨_, rfl⟩
      have b42 := hV21.get 89 (x18 : Int).toNat (lo := (-9223372036854775808)) (hi := 9223372036854775807) (by decide) (show _ < 60 by omega) rfl
      rw [e41] at b42
      refine pm_laload (len := 60) (v := y40) hC 89 rfl rfl (by decide) ⟨by omega, by omega⟩ (by decide) e41 dX4_compareExactly_36 ?_
      refine pm_lmul hC dX4_compareExactly_37 ?_
      refine pm_someL hC (fun y43 b44 => ?_)
      have b44 := And.intro b44.1 b44.2
      refine pm_aload_n hC 2 (by decide) dX4_compareExactly_38 rfl ?_
      refine pm_getf (v := 88) hC 87 fl_X4_51 rfl rfl (by decide) rfl e35 dX4_compareExactly_39 ?_
      refine pm_iload hC 4 dX4_compareExactly_42 rfl ?_
      refine pm_laload (len := 60) (v := y36) hC 88 rfl rfl (by decide) ⟨by omega, by omega⟩ (by decide) e37 dX4_compareExactly_44 ?_
      refine pm_aload_n hC 1 (by decide) dX4_compareExactly_45 rfl ?_
      refine pm_getf (v := 89) hC 87 fl_X4_55 rfl rfl (by decide) rfl e39 dX4_compareExactly_46 ?_
      refine pm_iload hC 4 dX4_compareExactly_49 rfl ?_
      refine pm_laload (len := 60) (v := y40) hC 89 rfl rfl (by decide) ⟨by omega, by omega⟩ (by decide) e41 dX4_compareExactly_51 ?_
      refine pm_lmul hC dX4_compareExactly_52 ?_
      refine pm_someL hC (fun y45 b46 => ?_)
      have b46 := And.intro b46.1 b46.2
      refine pm_lcmp hC ⟨by omega, by omega⟩ ⟨by omega, by omega⟩ dX4_compareExactly_53 (fun y47 b48 => ?_)
      refine pm_if_eq (tgt := 113) hC ⟨by omega, by omega⟩ dX4_compareExactly_54 (by decide) (fun c49 => ?_) (fun c49 => ?_)
      · skip
        obtain ⟨x50, ei51⟩ : ∃ y : Int, x18 + 1 = y := ⟨_, rfl⟩
        refine pm_iinc (y := x50) (lv' := [(4, (0, x50)), (0, (3, 78)), (1, (3, 87)), (2, (3, 87)), (3, (0, a1))]) hC 4 dX4_compareExactly_113 (by decide) rfl ei51 rfl ?_
        refine pm_goto (tgt := 17) hC dX4_compareExactly_116 (by decide) ?_
        refine pm_lvsub [1, 2, 3, 4, 0] (lv' := [(0, (3, 78)), (1, (3, 87)), (2, (3, 87)), (3, (0, a1)), (4, (0, x50))]) rfl ?_
        exact ih28 _ (by omega) x50 V20 ⟨by omega, by omega⟩ hV21 hF22 e23 e24 rfl
      · skip
        refine pm_aload_n hC 0 (by decide) dX4_compareExactly_57 rfl ?_
        refine pm_getf (v := 79) hC 78 fl_X4_10 rfl rfl (by decide) rfl e23 dX4_compareExactly_58 ?_
        refine pm_aload_n hC 1 (by decide) dX4_compareExactly_61 rfl ?_
        refine pm_getf (v := 88) hC 87 fl_X4_51 rfl rfl (by decide) rfl e35 dX4_compareExactly_62 ?_
        refine pm_iload hC 4 dX4_compareExactly_65 rfl ?_
        refine pm_laload (len := 60) (v := y36) hC 88 rfl rfl (by decide) ⟨by omega, by omega⟩ (by decide) e37 dX4_compareExactly_67 ?_
        refine pm_callV (ci := 1) (as := [(1, y36)]) (st := []) hC 79 (c_X1_times_79 y36 ⟨by omega, by omega⟩) lm_X4_65 li_X1_times (by decide) (by decide) rfl rfl rfl (by decide) rfl rfl (Nat.le_of_ble_eq_true rfl) ⟨Nat.le_refl _, Or.inl rfl⟩ dX4_compareExactly_68 ⟨rfl, hV21⟩ (fun r52 V53 hp54 => ?_)
        obtain ⟨rfl, hV55, hF56⟩ := hp54
        change pm_J X 71 [(0, (3, 78)), (1, (3, 87)), (2, (3, 87)), (3, (0, a1)), (4, (0, x18))] [] 118 V53
        have hF57 := pm_fr.tr hF22 hF56 (by decide)
        have e58 : V53 78 0 = 79 := by rw [hF56 78 (by decide)]; exact e23
        have e59 : V53 78 1 = 81 := by rw [hF56 78 (by decide)]; exact e24
        have e60 : V53 87 1 = 88 := by rw [hF56 87 (by decide)]; exact e35
        have e61 : V53 87 2 = 89 := by rw [hF56 87 (by decide)]; exact e39
        refine pm_aload_n hC 0 (by decide) dX4_compareExactly_71 rfl ?_
        refine pm_getf (v := 79) hC 78 fl_X4_10 rfl rfl (by decide) rfl e58 dX4_compareExactly_72 ?_
        refine pm_aload_n hC 2 (by decide) dX4_compareExactly_75 rfl ?_
        refine pm_getf (v := 89) hC 87 fl_X4_55 rfl rfl (by decide) rfl e61 dX4_compareExactly_76 ?_
        refine pm_iload hC 4 dX4_compareExactly_79 rfl ?_
        obtain ⟨y62, e63⟩ : ∃ y, V53 89 (x18 : Int).toNat = y := ⟨_, rfl⟩
        have b64 := hV55.get 89 (x18 : Int).toNat (lo := (-9223372036854775808)) (hi := 9223372036854775807) (by decide) (show _ < 60 by omega) rfl
        rw [e63] at b64
        refine pm_laload (len := 60) (v := y62) hC 89 rfl rfl (by decide) ⟨by omega, by omega⟩ (by decide) e63 dX4_compareExactly_81 ?_
        refine pm_callV (ci := 1) (as := [(1, y62)]) (st := []) hC 79 (c_X1_times_79 y62 ⟨by omega, by omega⟩) lm_X4_65 li_X1_times (by decide) (by decide) rfl rfl rfl (by decide) rfl rfl (Nat.le_of_ble_eq_true rfl) ⟨Nat.le_refl _, Or.inl rfl⟩ dX4_compareExactly_82 ⟨rfl, hV55⟩ (fun r65 V66 hp67 => ?_)
        obtain ⟨rfl, hV68, hF69⟩ := hp67
        change pm_J X 85 [(0, (3, 78)), (1, (3, 87)), (2, (3, 87)), (3, (0, a1)), (4, (0, x18))] [] 118 V66
        have hF70 := pm_fr.tr hF57 hF69 (by decide)
        have e71 : V66 78 0 = 79 := by rw [hF69 78 (by decide)]; exact e58
        have e72 : V66 78 1 = 81 := by rw [hF69 78 (by decide)]; exact e59
        have e73 : V66 87 1 = 88 := by rw [hF69 87 (by decide)]; exact e60
        have e74 : V66 87 2 = 89 := by rw [hF69 87 (by decide)]; exact e61
        refine pm_aload_n hC 0 (by decide) dX4_compareExactly_85 rfl ?_
        refine pm_getf (v := 81) hC 78 fl_X4_16 rfl rfl (by decide) rfl e72 dX4_compareExactly_86 ?_
        refine pm_aload_n hC 2 (by decide) dX4_compareExactly_89 rfl ?_
        refine pm_getf (v := 88) hC 87 fl_X4_51 rfl rfl (by decide) rfl e73 dX4_compareExactly_90 ?_
        refine pm_iload hC 4 dX4_compareExactly_93 rfl ?_
        obtain ⟨y75, e76⟩ : ∃ y, V66 88 (x18 : Int).toNat = y := ⟨_, rfl⟩
        have b77 := hV68.get 88 (x18 : Int).toNat (lo := (-9223372036854775808)) (hi := 9223372036854775807) (by decide) (show _ < 60 by omega) rfl
        rw [e76] at b77
        refine pm_laload (len := 60) (v := y75) hC 88 rfl rfl (by decide) ⟨by omega, by omega⟩ (by decide) e76 dX4_compareExactly_95 ?_
        refine pm_callV (ci := 1) (as := [(1, y75)]) (st := []) hC 81 (c_X1_times_81 y75 ⟨by omega, by omega⟩) lm_X4_65 li_X1_times (by decide) (by decide) rfl rfl rfl (by decide) rfl rfl (Nat.le_of_ble_eq_true rfl) ⟨Nat.le_refl _, Or.inl rfl⟩ dX4_compareExactly_96 ⟨rfl, hV68⟩ (fun r78 V79 hp80 => ?_)
        obtain ⟨rfl, hV81, hF82⟩ := hp80
        change pm_J X 99 [(0, (3, 78)), (1, (3, 87)), (2, (3, 87)), (3, (0, a1)), (4, (0, x18))] [] 118 V79
        have hF83 := pm_fr.tr hF70 hF82 (by decide)
        have e84 : V79 78 0 = 79 := by rw [hF82 78 (by decide)]; exact e71
        have e85 : V79 78 1 = 81 := by rw [hF82 78 (by decide)]; exact e72
        have e86 : V79 87 1 = 88 := by rw [hF82 87 (by decide)]; exact e73
        have e87 : V79 87 2 = 89 := by rw [hF82 87 (by decide)]; exact e74
        refine pm_aload_n hC 0 (by decide) dX4_compareExactly_99 rfl ?_
        refine pm_getf (v := 81) hC 78 fl_X4_16 rfl rfl (by decide) rfl e85 dX4_compareExactly_100 ?_
        refine pm_aload_n hC 1 (by decide) dX4_compareExactly_103 rfl ?_
        refine pm_getf (v := 89) hC 87 fl_X4_55 rfl rfl (by decide) rfl e87 dX4_compareExactly_104 ?_
        refine pm_iload hC 4 dX4_compareExactly_107 rfl ?_
        obtain ⟨y88, e89⟩ : ∃ y, V79 89 (x18 : Int).toNat = y := ⟨_, rfl⟩
        have b90 := hV81.get 89 (x18 : Int).toNat (lo := (-9223372036854775808)) (hi := 9223372036854775807) (by decide) (show _ < 60 by omega) rfl
        rw [e89] at b90
        refine pm_laload (len := 60) (v := y88) hC 89 rfl rfl (by decide) ⟨by omega, by omega⟩ (by decide) e89 dX4_compareExactly_109 ?_
        refine pm_callV (ci := 1) (as := [(1, y88)]) (st := []) hC 81 (c_X1_times_81 y88 ⟨by omega, by omega⟩) lm_X4_65 li_X1_times (by decide) (by decide) rfl rfl rfl (by decide) rfl rfl (Nat.le_of_ble_eq_true rfl) ⟨Nat.le_refl _, Or.inl rfl⟩ dX4_compareExactly_110 ⟨rfl, hV81⟩ (fun r91 V92 hp93 => ?_)
        obtain ⟨rfl, hV94, hF95⟩ := hp93
        change pm_J X 113 [(0, (3, 78)), (1, (3, 87)), (2, (3, 87)), (3, (0, a1)), (4, (0, x18))] [] 118 V92
        have hF96 := pm_fr.tr hF83 hF95 (by decide)
        have e97 : V92 78 0 = 79 := by rw [hF95 78 (by decide)]; exact e84
        have e98 : V92 78 1 = 81 := by rw [hF95 78 (by decide)]; exact e85
        have e99 : V92 87 1 = 88 := by rw [hF95 87 (by decide)]; exact e86
        have e100 : V92 87 2 = 89 := by rw [hF95 87 (by decide)]; exact e87
        obtain ⟨x101, ei102⟩ : ∃ y : Int, x18 + 1 = y := ⟨_, rfl⟩
        refine pm_iinc (y := x101) (lv' := [(4, (0, x101)), (0, (3, 78)), (1, (3, 87)), (2, (3, 87)), (3, (0, a1))]) hC 4 dX4_compareExactly_113 (by decide) rfl ei102 rfl ?_
        refine pm_goto (tgt := 17) hC dX4_compareExactly_116 (by decide) ?_
        refine pm_lvsub [1, 2, 3, 4, 0] (lv' := [(0, (3, 78)), (1, (3, 87)), (2, (3, 87)), (3, (0, a1)), (4, (0, x101))]) rfl ?_
        exact ih28 _ (by omega) x101 V92 ⟨by omega, by omega⟩ hV94 hF96 e97 e98 rfl
  refine pm_lvsub [1, 2, 3, 4, 0] (lv' := [(0, (3, 78)), (1, (3, 87)), (2, (3, 87)), (3, (0, a1)), (4, (0, 0))]) rfl ?_
  exact L25 _ 0 V11 ⟨by decide, by decide⟩ hV13 hF15 e16 e17 rfl
set_option maxHeartbeats 4000000 in
set_option maxRecDepth 100000 in
theorem c_X4_compareProducts_78_87_87  : pm_K 3 yX4_compareProducts cX4_compareProducts 8 (some .int) (fun av V => av = [(3, 78), (3, 87), (3, 87)] ∧ pm_ok 0 90 V) (fun _ V r V' => ∃ y, r = some (0, y) ∧ ((-1) ≤ y ∧ y ≤ 1) ∧ pm_ok 0 90 V' ∧ pm_fr [79, 80, 81, 82] V V') := by
  refine pm_MT.of (by decide) ⟨Nat.le_refl _, by decide⟩ (fun av V h => by rw [h.1]; exact (by decide : pm_words [(3, 0), (3, 0), (3, 0)] ≤ 8)) ?_
  rintro X av V0 hC - hR ⟨rfl, hV0⟩
  change pm_J X 0 [(0, (3, 78)), (1, (3, 87)), (2, (3, 87))] [] 118 V0
  refine pm_aload_n hC 1 (by decide) dX4_compareProducts_0 rfl ?_
  refine pm_callV (ci := 0) (as := []) (st := []) hC 87 c_X0_isNever_87 lm_X4_19 li_X0_isNever (by decide) (by decide) rfl rfl rfl (by decide) rfl rfl (Nat.le_of_ble_eq_true rfl) ⟨Nat.le_refl _, Or.inl rfl⟩ dX4_compareProducts_1 ⟨rfl, hV0⟩ (fun r1 V2 hp3 => ?_)
  obtain ⟨y4, rfl, b5, rfl⟩ := hp3
  change pm_J X 4 [(0, (3, 78)), (1, (3, 87)), (2, (3, 87))] [(0, y4)] 118 V0
  refine pm_istore_n (lv' := [(3, (0, y4)), (0, (3, 78)), (1, (3, 87)), (2, (3, 87))]) hC dX4_compareProducts_4 (by decide) rfl ?_
  refine pm_aload_n hC 3 (by decide) dX4_compareProducts_5 rfl ?_
  refine pm_callV (ci := 0) (as := []) (st := []) hC 87 c_X0_isNever_87 lm_X4_19 li_X0_isNever (by decide) (by decide) rfl rfl rfl (by decide) rfl rfl (Nat.le_of_ble_eq_true rfl) ⟨Nat.le_refl _, Or.inl rfl⟩ dX4_compareProducts_6 ⟨rfl, hV0⟩ (fun r6 V7 hp8 => ?_)
  obtain ⟨y9, rfl, b10, rfl⟩ := hp8
  change pm_J X 9 [(3, (0, y4)), (0, (3, 78)), (1, (3, 87)), (2, (3, 87))] [(0, y9)] 118 V0
  refine pm_istore (lv' := [(4, (0, y9)), (3, (0, y4)), (0, (3, 78)), (1, (3, 87)), (2, (3, 87))]) hC dX4_compareProducts_9 (by decide) rfl ?_
  refine pm_iload_n hC 1 dX4_compareProducts_11 rfl ?_
  refine pm_if_ne (tgt := 20) hC ⟨by omega, by omega⟩ dX4_compareProducts_12 (by decide) (fun c11 => ?_) (fun c11 => ?_)
  · skip
    refine pm_iload hC 0 dX4_compareProducts_20 rfl ?_
    refine pm_if_eq (tgt := 29) hC ⟨by omega, by omega⟩ dX4_compareProducts_22 (by decide) (fun c12 => ?_) (fun c12 => ?_)
    · skip
      refine pm_iconst (v := 0) hC dX4_compareProducts_29 ?_
      refine pm_iload_n hC 1 dX4_compareProducts_30 rfl ?_
      refine pm_if_eq (tgt := 38) hC ⟨by omega, by omega⟩ dX4_compareProducts_31 (by decide) (fun c13 => ?_) (fun c13 => ?_)
      · skip
        exfalso; omega
      · skip
        refine pm_iconst (v := 1) hC dX4_compareProducts_34 ?_
        refine pm_goto (tgt := 39) hC dX4_compareProducts_35 (by decide) ?_
        refine pm_isub hC dX4_compareProducts_39 ?_
        change pm_J X 40 [(4, (0, y9)), (3, (0, y4)), (0, (3, 78)), (1, (3, 87)), (2, (3, 87))] [(0, (-1))] 118 V0
        exact pm_iret hC hR pm_nar0 ⟨(-1), rfl, ⟨by omega, by omega⟩, hV0, (pm_fr.rf (ws := [79, 80, 81, 82]) (V := V0))⟩ dX4_compareProducts_40
    · skip
      refine pm_iconst (v := 1) hC dX4_compareProducts_25 ?_
      refine pm_goto (tgt := 30) hC dX4_compareProducts_26 (by decide) ?_
      refine pm_iload_n hC 1 dX4_compareProducts_30 rfl ?_
      refine pm_if_eq (tgt := 38) hC ⟨by omega, by omega⟩ dX4_compareProducts_31 (by decide) (fun c14 => ?_) (fun c14 => ?_)
      · skip
        exfalso; omega
      · skip
        refine pm_iconst (v := 1) hC dX4_compareProducts_34 ?_
        refine pm_goto (tgt := 39) hC dX4_compareProducts_35 (by decide) ?_
        refine pm_isub hC dX4_compareProducts_39 ?_
        change pm_J X 40 [(4, (0, y9)), (3, (0, y4)), (0, (3, 78)), (1, (3, 87)), (2, (3, 87))] [(0, 0)] 118 V0
        exact pm_iret hC hR pm_nar0 ⟨0, rfl, ⟨by omega, by omega⟩, hV0, (pm_fr.rf (ws := [79, 80, 81, 82]) (V := V0))⟩ dX4_compareProducts_40
  · skip
    refine pm_iload hC 0 dX4_compareProducts_15 rfl ?_
    refine pm_if_eq (tgt := 41) hC ⟨by omega, by omega⟩ dX4_compareProducts_17 (by decide) (fun c15 => ?_) (fun c15 => ?_)
    · skip
      refine pm_aload_n hC 3 (by decide) dX4_compareProducts_41 rfl ?_
      obtain ⟨y16, e17⟩ : ∃ y, V0 87 0 = y := ⟨_, rfl⟩
      have b18 := hV0.get 87 0 (lo := 0) (hi := 60) (by decide) (by decide) rfl
      rw [e17] at b18
      refine pm_getf (v := y16) hC 87 fl_X4_25 rfl rfl (by decide) rfl e17 dX4_compareProducts_42 ?_
      refine pm_aload_n hC 4 (by decide) dX4_compareProducts_45 rfl ?_
      refine pm_getf (v := y16) hC 87 fl_X4_25 rfl rfl (by decide) rfl e17 dX4_compareProducts_46 ?_
      refine pm_mmin hC 4159 4160 1018 4161 ⟨by omega, by omega⟩ ⟨by omega, by omega⟩ (by decide) wL_X4_29 wS_mmin wI_math wC_mmin (Nat.le_of_ble_eq_true rfl) dX4_compareProducts_49 (fun y19 b20 => ?_)
      refine pm_istore (lv' := [(5, (0, y19)), (4, (0, y9)), (3, (0, y4)), (0, (3, 78)), (1, (3, 87)), (2, (3, 87))]) hC dX4_compareProducts_52 (by decide) rfl ?_
      refine pm_aload_n hC 4 (by decide) dX4_compareProducts_54 rfl ?_
      refine pm_aload_n hC 5 (by decide) dX4_compareProducts_55 rfl ?_
      refine pm_iload hC 0 dX4_compareProducts_56 rfl ?_
      refine pm_callS (as := [(3, 87), (3, 87), (0, y19)]) (st := []) hC (c_X4_roughQuotient_87_87 y19 ⟨by omega, by omega⟩) lm_X4_35 ls_X4_roughQuotient (by decide) (by decide) rfl rfl (Nat.le_of_ble_eq_true rfl) ⟨Nat.le_refl _, Or.inl rfl⟩ dX4_compareProducts_58 ⟨rfl, hV0⟩ (fun r21 V22 hp23 => ?_)
      obtain ⟨y24, rfl, b25, rfl⟩ := hp23
      change pm_J X 61 [(5, (0, y19)), (4, (0, y9)), (3, (0, y4)), (0, (3, 78)), (1, (3, 87)), (2, (3, 87))] [(2, y24)] 118 V0
      refine pm_dstore (lv' := [(6, (2, y24)), (5, (0, y19)), (4, (0, y9)), (3, (0, y4)), (0, (3, 78)), (1, (3, 87)), (2, (3, 87))]) hC dX4_compareProducts_61 (by decide) rfl ?_
      refine pm_dload hC 0 dX4_compareProducts_63 rfl ?_
      refine pm_ldc2d (v := 4607182418804521008) hC 4171 dX4_compareProducts_65 (by decide +kernel) (fun r26 => ?_)
      refine pm_dcmp hC dX4_compareProducts_68 (fun y27 b28 => ?_)
      have b28 := And.intro b28.1 b28.2
      refine pm_if_le (tgt := 74) hC ⟨by omega, by omega⟩ dX4_compareProducts_69 (by decide) (fun c29 => ?_) (fun c29 => ?_)
      · skip
        refine pm_dload hC 0 dX4_compareProducts_74 rfl ?_
        refine pm_ldc2d (v := 4607182418791010209) hC 4172 dX4_compareProducts_76 (by decide +kernel) (fun r30 => ?_)
        refine pm_dcmp hC dX4_compareProducts_79 (fun y31 b32 => ?_)
        have b32 := And.intro b32.1 b32.2
        refine pm_if_ge (tgt := 85) hC ⟨by omega, by omega⟩ dX4_compareProducts_80 (by decide) (fun c33 => ?_) (fun c33 => ?_)
        · skip
          refine pm_aload_n hC 4 (by decide) dX4_compareProducts_85 rfl ?_
          refine pm_aload_n hC 5 (by decide) dX4_compareProducts_86 rfl ?_
          refine pm_aload_n hC 6 (by decide) dX4_compareProducts_87 rfl ?_
          refine pm_iload hC 1 dX4_compareProducts_88 rfl ?_
          refine pm_callV (ci := 4) (as := [(3, 87), (3, 87), (0, y19)]) (st := []) hC 78 (c_X4_compareExactly_78_87_87 y19 ⟨by omega, by omega⟩) lm_X4_43 li_X4_compareExactly (by decide) (by decide) rfl rfl rfl (by decide) rfl rfl (Nat.le_of_ble_eq_true rfl) ⟨Nat.le_refl _, Or.inl rfl⟩ dX4_compareProducts_90 ⟨rfl, hV0⟩ (fun r34 V35 hp36 => ?_)
          obtain ⟨y37, rfl, b38, hV39, hF40⟩ := hp36
          change pm_J X 93 [(6, (2, y24)), (5, (0, y19)), (4, (0, y9)), (3, (0, y4)), (0, (3, 78)), (1, (3, 87)), (2, (3, 87))] [(0, y37)] 118 V35
          have hF41 := pm_fr.tr (pm_fr.rf (ws := [79, 80, 81, 82]) (V := V0)) hF40 (by decide)
          have e42 : V35 87 0 = y16 := by rw [hF40 87 (by decide)]; exact e17
          exact pm_iret hC hR pm_nar0 ⟨y37, rfl, ⟨by omega, by omega⟩, hV39, hF41⟩ dX4_compareProducts_93
        · skip
          refine pm_iconst (v := (-1)) hC dX4_compareProducts_83 ?_
          exact pm_iret hC hR pm_nar0 ⟨(-1), rfl, ⟨by omega, by omega⟩, hV0, (pm_fr.rf (ws := [79, 80, 81, 82]) (V := V0))⟩ dX4_compareProducts_84
      · skip
        refine pm_iconst (v := 1) hC dX4_compareProducts_72 ?_
        exact pm_iret hC hR pm_nar0 ⟨1, rfl, ⟨by omega, by omega⟩, hV0, (pm_fr.rf (ws := [79, 80, 81, 82]) (V := V0))⟩ dX4_compareProducts_73
    · skip
      refine pm_iload hC 0 dX4_compareProducts_20 rfl ?_
      refine pm_if_eq (tgt := 29) hC ⟨by omega, by omega⟩ dX4_compareProducts_22 (by decide) (fun c43 => ?_) (fun c43 => ?_)
      · skip
        exfalso; omega
      · skip
        refine pm_iconst (v := 1) hC dX4_compareProducts_25 ?_
        refine pm_goto (tgt := 30) hC dX4_compareProducts_26 (by decide) ?_
        refine pm_iload_n hC 1 dX4_compareProducts_30 rfl ?_
        refine pm_if_eq (tgt := 38) hC ⟨by omega, by omega⟩ dX4_compareProducts_31 (by decide) (fun c44 => ?_) (fun c44 => ?_)
        · skip
          refine pm_iconst (v := 0) hC dX4_compareProducts_38 ?_
          refine pm_isub hC dX4_compareProducts_39 ?_
          change pm_J X 40 [(4, (0, y9)), (3, (0, y4)), (0, (3, 78)), (1, (3, 87)), (2, (3, 87))] [(0, 1)] 118 V0
          exact pm_iret hC hR pm_nar0 ⟨1, rfl, ⟨by omega, by omega⟩, hV0, (pm_fr.rf (ws := [79, 80, 81, 82]) (V := V0))⟩ dX4_compareProducts_40
        · skip
          exfalso; omega
set_option maxHeartbeats 4000000 in
set_option maxRecDepth 100000 in
theorem c_X11_more_0 (a1 a2 a3 : Int) (h0 : (-2147483648) ≤ a1 ∧ a1 ≤ 2147483647) (h1 : (-2147483648) ≤ a2 ∧ a2 ≤ 2147483647) (h2 : (-2147483648) ≤ a3 ∧ a3 ≤ 2147483647) : pm_K 6 yX11_more cX11_more 5 (some .int) (fun av V => av = [(3, 0), (0, a1), (0, a2), (0, a3)] ∧ pm_ok 0 90 V) (fun _ V r V' => ∃ y, r = some (0, y) ∧ ((-1) ≤ y ∧ y ≤ 2) ∧ pm_ok 0 90 V' ∧ pm_fr [73, 74, 75, 76, 77, 79, 80, 81, 82, 84, 85, 86, 87, 88, 89] V V') := by
  refine pm_MT.of (by decide) ⟨Nat.le_refl _, by decide⟩ (fun av V h => by rw [h.1]; exact (by decide : pm_words [(3, 0), (0, 0), (0, 0), (0, 0)] ≤ 5)) ?_
  rintro X av V0 hC - hR ⟨rfl, hV0⟩
  change pm_J X 0 [(0, (3, 0)), (1, (0, a1)), (2, (0, a2)), (3, (0, a3))] [] 118 V0
  refine pm_iload_n hC 1 dX11_more_0 rfl ?_
  refine pm_callS (as := [(0, a1)]) (st := []) hC (c_X11_isLaw a1 ⟨by omega, by omega⟩) lm_X11_262 ls_X11_isLaw (by decide) (by decide) rfl rfl (Nat.le_of_ble_eq_true rfl) ⟨Nat.le_refl _, Or.inl rfl⟩ dX11_more_1 ⟨rfl, hV0⟩ (fun r1 V2 hp3 => ?_)
  obtain ⟨y4, rfl, b5, rfl⟩ := hp3
  change pm_J X 4 [(0, (3, 0)), (1, (0, a1)), (2, (0, a2)), (3, (0, a3))] [(0, y4)] 118 V0
  refine pm_if_eq (tgt := 22) hC ⟨by omega, by omega⟩ dX11_more_4 (by decide) (fun c6 => ?_) (fun c6 => ?_)
  · skip
    refine pm_iconst (v := (-1)) hC dX11_more_22 ?_
    exact pm_iret hC hR pm_nar0 ⟨(-1), rfl, ⟨by omega, by omega⟩, hV0, (pm_fr.rf (ws := [73, 74, 75, 76, 77, 79, 80, 81, 82, 84, 85, 86, 87, 88, 89]) (V := V0))⟩ dX11_more_23
  · skip
    refine pm_iload_n hC 2 dX11_more_7 rfl ?_
    refine pm_callS (as := [(0, a2)]) (st := []) hC (c_X11_isLaw a2 ⟨by omega, by omega⟩) lm_X11_262 ls_X11_isLaw (by decide) (by decide) rfl rfl (Nat.le_of_ble_eq_true rfl) ⟨Nat.le_refl _, Or.inl rfl⟩ dX11_more_8 ⟨rfl, hV0⟩ (fun r7 V8 hp9 => ?_)
    obtain ⟨y10, rfl, b11, rfl⟩ := hp9
    change pm_J X 11 [(0, (3, 0)), (1, (0, a1)), (2, (0, a2)), (3, (0, a3))] [(0, y10)] 118 V0
    refine pm_if_eq (tgt := 22) hC ⟨by omega, by omega⟩ dX11_more_11 (by decide) (fun c12 => ?_) (fun c12 => ?_)
    · skip
      refine pm_iconst (v := (-1)) hC dX11_more_22 ?_
      exact pm_iret hC hR pm_nar0 ⟨(-1), rfl, ⟨by omega, by omega⟩, hV0, (pm_fr.rf (ws := [73, 74, 75, 76, 77, 79, 80, 81, 82, 84, 85, 86, 87, 88, 89]) (V := V0))⟩ dX11_more_23
    · skip
      refine pm_aload_n hC 0 (by decide) dX11_more_14 rfl ?_
      refine pm_iload_n hC 3 dX11_more_15 rfl ?_
      refine pm_callV (ci := 11) (as := [(0, a3)]) (st := []) hC 0 (c_X11_isPersonOrAll_0 a3 ⟨by omega, by omega⟩) lm_X11_265 li_X11_isPersonOrAll (by decide) (by decide) rfl rfl rfl (by decide) rfl rfl (Nat.le_of_ble_eq_true rfl) ⟨Nat.le_refl _, Or.inl rfl⟩ dX11_more_16 ⟨rfl, hV0⟩ (fun r13 V14 hp15 => ?_)
      obtain ⟨y16, rfl, b17, rfl⟩ := hp15
      change pm_J X 19 [(0, (3, 0)), (1, (0, a1)), (2, (0, a2)), (3, (0, a3))] [(0, y16)] 118 V0
      refine pm_if_ne (tgt := 24) hC ⟨by omega, by omega⟩ dX11_more_19 (by decide) (fun c18 => ?_) (fun c18 => ?_)
      · skip
        refine pm_aload_n hC 0 (by decide) dX11_more_24 rfl ?_
        refine pm_aload_n hC 0 (by decide) dX11_more_25 rfl ?_
        rcases hV0.get2 0 12 (lo := 84) (hi := 87) (by decide) (by decide) rfl with e19 | e19
        · skip
          refine pm_getf (v := 84) hC 0 fl_X11_93 rfl rfl (by decide) rfl e19 dX11_more_26 ?_
          refine pm_iload_n hC 1 dX11_more_29 rfl ?_
          refine pm_iload_n hC 3 dX11_more_30 rfl ?_
          refine pm_callV (ci := 11) (as := [(3, 84), (0, a1), (0, a3)]) (st := []) hC 0 (c_X11_gather_0_84 a1 a3 ⟨by omega, by omega⟩ ⟨by omega, by omega⟩) lm_X11_268 li_X11_gather (by decide) (by decide) rfl rfl rfl (by decide) rfl rfl (Nat.le_of_ble_eq_true rfl) ⟨Nat.le_refl _, Or.inl rfl⟩ dX11_more_31 ⟨rfl, hV0⟩ (fun r20 V21 hp22 => ?_)
          obtain ⟨rfl, hV23, hF24⟩ := hp22
          change pm_J X 34 [(0, (3, 0)), (1, (0, a1)), (2, (0, a2)), (3, (0, a3))] [] 118 V21
          have hF25 := pm_fr.tr (pm_fr.rf (ws := [73, 74, 75, 76, 77, 79, 80, 81, 82, 84, 85, 86, 87, 88, 89]) (V := V0)) hF24 (by decide)
          have e26 : V21 0 12 = 84 := by rw [hF24 0 (by decide)]; exact e19
          refine pm_aload_n hC 0 (by decide) dX11_more_34 rfl ?_
          refine pm_aload_n hC 0 (by decide) dX11_more_35 rfl ?_
          rcases hV23.get2 0 13 (lo := 84) (hi := 87) (by decide) (by decide) rfl with e27 | e27
          · skip
            refine pm_getf (v := 84) hC 0 fl_X11_97 rfl rfl (by decide) rfl e27 dX11_more_36 ?_
            refine pm_iload_n hC 2 dX11_more_39 rfl ?_
            refine pm_iload_n hC 3 dX11_more_40 rfl ?_
            refine pm_callV (ci := 11) (as := [(3, 84), (0, a2), (0, a3)]) (st := []) hC 0 (c_X11_gather_0_84 a2 a3 ⟨by omega, by omega⟩ ⟨by omega, by omega⟩) lm_X11_268 li_X11_gather (by decide) (by decide) rfl rfl rfl (by decide) rfl rfl (Nat.le_of_ble_eq_true rfl) ⟨Nat.le_refl _, Or.inl rfl⟩ dX11_more_41 ⟨rfl, hV23⟩ (fun r28 V29 hp30 => ?_)
            obtain ⟨rfl, hV31, hF32⟩ := hp30
            change pm_J X 44 [(0, (3, 0)), (1, (0, a1)), (2, (0, a2)), (3, (0, a3))] [] 118 V29
            have hF33 := pm_fr.tr hF25 hF32 (by decide)
            have e34 : V29 0 12 = 84 := by rw [hF32 0 (by decide)]; exact e26
            have e35 : V29 0 13 = 84 := by rw [hF32 0 (by decide)]; exact e27
            refine pm_aload_n hC 0 (by decide) dX11_more_44 rfl ?_
            have e36 : V29 0 6 = 78 := hV31.one 0 6 (by decide) (by decide) rfl
            refine pm_getf (v := 78) hC 0 fl_X11_82 rfl rfl (by decide) rfl e36 dX11_more_45 ?_
            refine pm_aload_n hC 0 (by decide) dX11_more_48 rfl ?_
            refine pm_getf (v := 84) hC 0 fl_X11_93 rfl rfl (by decide) rfl e34 dX11_more_49 ?_
            refine pm_aload_n hC 0 (by decide) dX11_more_52 rfl ?_
            refine pm_getf (v := 84) hC 0 fl_X11_97 rfl rfl (by decide) rfl e35 dX11_more_53 ?_
            refine pm_callV (ci := 4) (as := [(3, 84), (3, 84)]) (st := []) hC 78 c_X4_compareProducts_78_84_84 lm_X11_272 li_X4_compareProducts (by decide) (by decide) rfl rfl rfl (by decide) rfl rfl (Nat.le_of_ble_eq_true rfl) ⟨Nat.le_refl _, Or.inl rfl⟩ dX11_more_56 ⟨rfl, hV31⟩ (fun r37 V38 hp39 => ?_)
            obtain ⟨y40, rfl, b41, hV42, hF43⟩ := hp39
            change pm_J X 59 [(0, (3, 0)), (1, (0, a1)), (2, (0, a2)), (3, (0, a3))] [(0, y40)] 118 V38
            have hF44 := pm_fr.tr hF33 hF43 (by decide)
            have e45 : V38 0 12 = 84 := by rw [hF43 0 (by decide)]; exact e34
            have e46 : V38 0 13 = 84 := by rw [hF43 0 (by decide)]; exact e35
            have e47 : V38 0 6 = 78 := by rw [hF43 0 (by decide)]; exact e36
            refine pm_istore (lv' := [(4, (0, y40)), (0, (3, 0)), (1, (0, a1)), (2, (0, a2)), (3, (0, a3))]) hC dX11_more_59 (by decide) rfl ?_
            refine pm_iload hC 0 dX11_more_61 rfl ?_
            refine pm_if_ne (tgt := 68) hC ⟨by omega, by omega⟩ dX11_more_63 (by decide) (fun c48 => ?_) (fun c48 => ?_)
            · skip
              refine pm_iload hC 0 dX11_more_68 rfl ?_
              refine pm_if_le (tgt := 77) hC ⟨by omega, by omega⟩ dX11_more_70 (by decide) (fun c49 => ?_) (fun c49 => ?_)
              · skip
                refine pm_iconst (v := 2) hC dX11_more_77 ?_
                exact pm_iret hC hR pm_nar0 ⟨2, rfl, ⟨by omega, by omega⟩, hV42, hF44⟩ dX11_more_78
              · skip
                refine pm_iconst (v := 1) hC dX11_more_73 ?_
                refine pm_goto (tgt := 78) hC dX11_more_74 (by decide) ?_
                exact pm_iret hC hR pm_nar0 ⟨1, rfl, ⟨by omega, by omega⟩, hV42, hF44⟩ dX11_more_78
            · skip
              refine pm_iconst (v := 0) hC dX11_more_66 ?_
              exact pm_iret hC hR pm_nar0 ⟨0, rfl, ⟨by omega, by omega⟩, hV42, hF44⟩ dX11_more_67
          · skip
            refine pm_getf (v := 87) hC 0 fl_X11_97 rfl rfl (by decide) rfl e27 dX11_more_36 ?_
            refine pm_iload_n hC 2 dX11_more_39 rfl ?_
            refine pm_iload_n hC 3 dX11_more_40 rfl ?_
            refine pm_callV (ci := 11) (as := [(3, 87), (0, a2), (0, a3)]) (st := []) hC 0 (c_X11_gather_0_87 a2 a3 ⟨by omega, by omega⟩ ⟨by omega, by omega⟩) lm_X11_268 li_X11_gather (by decide) (by decide) rfl rfl rfl (by decide) rfl rfl (Nat.le_of_ble_eq_true rfl) ⟨Nat.le_refl _, Or.inl rfl⟩ dX11_more_41 ⟨rfl, hV23⟩ (fun r50 V51 hp52 => ?_)
            obtain ⟨rfl, hV53, hF54⟩ := hp52
            change pm_J X 44 [(0, (3, 0)), (1, (0, a1)), (2, (0, a2)), (3, (0, a3))] [] 118 V51
            have hF55 := pm_fr.tr hF25 hF54 (by decide)
            have e56 : V51 0 12 = 84 := by rw [hF54 0 (by decide)]; exact e26
            have e57 : V51 0 13 = 87 := by rw [hF54 0 (by decide)]; exact e27
            refine pm_aload_n hC 0 (by decide) dX11_more_44 rfl ?_
            have e58 : V51 0 6 = 78 := hV53.one 0 6 (by decide) (by decide) rfl
            refine pm_getf (v := 78) hC 0 fl_X11_82 rfl rfl (by decide) rfl e58 dX11_more_45 ?_
            refine pm_aload_n hC 0 (by decide) dX11_more_48 rfl ?_
            refine pm_getf (v := 84) hC 0 fl_X11_93 rfl rfl (by decide) rfl e56 dX11_more_49 ?_
            refine pm_aload_n hC 0 (by decide) dX11_more_52 rfl ?_
            refine pm_getf (v := 87) hC 0 fl_X11_97 rfl rfl (by decide) rfl e57 dX11_more_53 ?_
            refine pm_callV (ci := 4) (as := [(3, 84), (3, 87)]) (st := []) hC 78 c_X4_compareProducts_78_84_87 lm_X11_272 li_X4_compareProducts (by decide) (by decide) rfl rfl rfl (by decide) rfl rfl (Nat.le_of_ble_eq_true rfl) ⟨Nat.le_refl _, Or.inl rfl⟩ dX11_more_56 ⟨rfl, hV53⟩ (fun r59 V60 hp61 => ?_)
            obtain ⟨y62, rfl, b63, hV64, hF65⟩ := hp61
            change pm_J X 59 [(0, (3, 0)), (1, (0, a1)), (2, (0, a2)), (3, (0, a3))] [(0, y62)] 118 V60
            have hF66 := pm_fr.tr hF55 hF65 (by decide)
            have e67 : V60 0 12 = 84 := by rw [hF65 0 (by decide)]; exact e56
            have e68 : V60 0 13 = 87 := by rw [hF65 0 (by decide)]; exact e57
            have e69 : V60 0 6 = 78 := by rw [hF65 0 (by decide)]; exact e58
            refine pm_istore (lv' := [(4, (0, y62)), (0, (3, 0)), (1, (0, a1)), (2, (0, a2)), (3, (0, a3))]) hC dX11_more_59 (by decide) rfl ?_
            refine pm_iload hC 0 dX11_more_61 rfl ?_
            refine pm_if_ne (tgt := 68) hC ⟨by omega, by omega⟩ dX11_more_63 (by decide) (fun c70 => ?_) (fun c70 => ?_)
            · skip
              refine pm_iload hC 0 dX11_more_68 rfl ?_
              refine pm_if_le (tgt := 77) hC ⟨by omega, by omega⟩ dX11_more_70 (by decide) (fun c71 => ?_) (fun c71 => ?_)
              · skip
                refine pm_iconst (v := 2) hC dX11_more_77 ?_
                exact pm_iret hC hR pm_nar0 ⟨2, rfl, ⟨by omega, by omega⟩, hV64, hF66⟩ dX11_more_78
              · skip
                refine pm_iconst (v := 1) hC dX11_more_73 ?_
                refine pm_goto (tgt := 78) hC dX11_more_74 (by decide) ?_
                exact pm_iret hC hR pm_nar0 ⟨1, rfl, ⟨by omega, by omega⟩, hV64, hF66⟩ dX11_more_78
            · skip
              refine pm_iconst (v := 0) hC dX11_more_66 ?_
              exact pm_iret hC hR pm_nar0 ⟨0, rfl, ⟨by omega, by omega⟩, hV64, hF66⟩ dX11_more_67
        · skip
          refine pm_getf (v := 87) hC 0 fl_X11_93 rfl rfl (by decide) rfl e19 dX11_more_26 ?_
          refine pm_iload_n hC 1 dX11_more_29 rfl ?_
          refine pm_iload_n hC 3 dX11_more_30 rfl ?_
          refine pm_callV (ci := 11) (as := [(3, 87), (0, a1), (0, a3)]) (st := []) hC 0 (c_X11_gather_0_87 a1 a3 ⟨by omega, by omega⟩ ⟨by omega, by omega⟩) lm_X11_268 li_X11_gather (by decide) (by decide) rfl rfl rfl (by decide) rfl rfl (Nat.le_of_ble_eq_true rfl) ⟨Nat.le_refl _, Or.inl rfl⟩ dX11_more_31 ⟨rfl, hV0⟩ (fun r72 V73 hp74 => ?_)
          obtain ⟨rfl, hV75, hF76⟩ := hp74
          change pm_J X 34 [(0, (3, 0)), (1, (0, a1)), (2, (0, a2)), (3, (0, a3))] [] 118 V73
          have hF77 := pm_fr.tr (pm_fr.rf (ws := [73, 74, 75, 76, 77, 79, 80, 81, 82, 84, 85, 86, 87, 88, 89]) (V := V0)) hF76 (by decide)
          have e78 : V73 0 12 = 87 := by rw [hF76 0 (by decide)]; exact e19
          refine pm_aload_n hC 0 (by decide) dX11_more_34 rfl ?_
          refine pm_aload_n hC 0 (by decide) dX11_more_35 rfl ?_
          rcases hV75.get2 0 13 (lo := 84) (hi := 87) (by decide) (by decide) rfl with e79 | e79
          · skip
            refine pm_getf (v := 84) hC 0 fl_X11_97 rfl rfl (by decide) rfl e79 dX11_more_36 ?_
            refine pm_iload_n hC 2 dX11_more_39 rfl ?_
            refine pm_iload_n hC 3 dX11_more_40 rfl ?_
            refine pm_callV (ci := 11) (as := [(3, 84), (0, a2), (0, a3)]) (st := []) hC 0 (c_X11_gather_0_84 a2 a3 ⟨by omega, by omega⟩ ⟨by omega, by omega⟩) lm_X11_268 li_X11_gather (by decide) (by decide) rfl rfl rfl (by decide) rfl rfl (Nat.le_of_ble_eq_true rfl) ⟨Nat.le_refl _, Or.inl rfl⟩ dX11_more_41 ⟨rfl, hV75⟩ (fun r80 V81 hp82 => ?_)
            obtain ⟨rfl, hV83, hF84⟩ := hp82
            change pm_J X 44 [(0, (3, 0)), (1, (0, a1)), (2, (0, a2)), (3, (0, a3))] [] 118 V81
            have hF85 := pm_fr.tr hF77 hF84 (by decide)
            have e86 : V81 0 12 = 87 := by rw [hF84 0 (by decide)]; exact e78
            have e87 : V81 0 13 = 84 := by rw [hF84 0 (by decide)]; exact e79
            refine pm_aload_n hC 0 (by decide) dX11_more_44 rfl ?_
            have e88 : V81 0 6 = 78 := hV83.one 0 6 (by decide) (by decide) rfl
            refine pm_getf (v := 78) hC 0 fl_X11_82 rfl rfl (by decide) rfl e88 dX11_more_45 ?_
            refine pm_aload_n hC 0 (by decide) dX11_more_48 rfl ?_
            refine pm_getf (v := 87) hC 0 fl_X11_93 rfl rfl (by decide) rfl e86 dX11_more_49 ?_
            refine pm_aload_n hC 0 (by decide) dX11_more_52 rfl ?_
            refine pm_getf (v := 84) hC 0 fl_X11_97 rfl rfl (by decide) rfl e87 dX11_more_53 ?_
            refine pm_callV (ci := 4) (as := [(3, 87), (3, 84)]) (st := []) hC 78 c_X4_compareProducts_78_87_84 lm_X11_272 li_X4_compareProducts (by decide) (by decide) rfl rfl rfl (by decide) rfl rfl (Nat.le_of_ble_eq_true rfl) ⟨Nat.le_refl _, Or.inl rfl⟩ dX11_more_56 ⟨rfl, hV83⟩ (fun r89 V90 hp91 => ?_)
            obtain ⟨y92, rfl, b93, hV94, hF95⟩ := hp91
            change pm_J X 59 [(0, (3, 0)), (1, (0, a1)), (2, (0, a2)), (3, (0, a3))] [(0, y92)] 118 V90
            have hF96 := pm_fr.tr hF85 hF95 (by decide)
            have e97 : V90 0 12 = 87 := by rw [hF95 0 (by decide)]; exact e86
            have e98 : V90 0 13 = 84 := by rw [hF95 0 (by decide)]; exact e87
            have e99 : V90 0 6 = 78 := by rw [hF95 0 (by decide)]; exact e88
            refine pm_istore (lv' := [(4, (0, y92)), (0, (3, 0)), (1, (0, a1)), (2, (0, a2)), (3, (0, a3))]) hC dX11_more_59 (by decide) rfl ?_
            refine pm_iload hC 0 dX11_more_61 rfl ?_
            refine pm_if_ne (tgt := 68) hC ⟨by omega, by omega⟩ dX11_more_63 (by decide) (fun c100 => ?_) (fun c100 => ?_)
            · skip
              refine pm_iload hC 0 dX11_more_68 rfl ?_
              refine pm_if_le (tgt := 77) hC ⟨by omega, by omega⟩ dX11_more_70 (by decide) (fun c101 => ?_) (fun c101 => ?_)
              · skip
                refine pm_iconst (v := 2) hC dX11_more_77 ?_
                exact pm_iret hC hR pm_nar0 ⟨2, rfl, ⟨by omega, by omega⟩, hV94, hF96⟩ dX11_more_78
              · skip
                refine pm_iconst (v := 1) hC dX11_more_73 ?_
                refine pm_goto (tgt := 78) hC dX11_more_74 (by decide) ?_
                exact pm_iret hC hR pm_nar0 ⟨1, rfl, ⟨by omega, by omega⟩, hV94, hF96⟩ dX11_more_78
            · skip
              refine pm_iconst (v := 0) hC dX11_more_66 ?_
              exact pm_iret hC hR pm_nar0 ⟨0, rfl, ⟨by omega, by omega⟩, hV94, hF96⟩ dX11_more_67
          · skip
            refine pm_getf (v := 87) hC 0 fl_X11_97 rfl rfl (by decide) rfl e79 dX11_more_36 ?_
            refine pm_iload_n hC 2 dX11_more_39 rfl ?_
            refine pm_iload_n hC 3 dX11_more_40 rfl ?_
            refine pm_callV (ci := 11) (as := [(3, 87), (0, a2), (0, a3)]) (st := []) hC 0 (c_X11_gather_0_87 a2 a3 ⟨by omega, by omega⟩ ⟨by omega, by omega⟩) lm_X11_268 li_X11_gather (by decide) (by decide) rfl rfl rfl (by decide) rfl rfl (Nat.le_of_ble_eq_true rfl) ⟨Nat.le_refl _, Or.inl rfl⟩ dX11_more_41 ⟨rfl, hV75⟩ (fun r102 V103 hp104 => ?_)
            obtain ⟨rfl, hV105, hF106⟩ := hp104
            change pm_J X 44 [(0, (3, 0)), (1, (0, a1)), (2, (0, a2)), (3, (0, a3))] [] 118 V103
            have hF107 := pm_fr.tr hF77 hF106 (by decide)
            have e108 : V103 0 12 = 87 := by rw [hF106 0 (by decide)]; exact e78
            have e109 : V103 0 13 = 87 := by rw [hF106 0 (by decide)]; exact e79
            refine pm_aload_n hC 0 (by decide) dX11_more_44 rfl ?_
            have e110 : V103 0 6 = 78 := hV105.one 0 6 (by decide) (by decide) rfl
            refine pm_getf (v := 78) hC 0 fl_X11_82 rfl rfl (by decide) rfl e110 dX11_more_45 ?_
            refine pm_aload_n hC 0 (by decide) dX11_more_48 rfl ?_
            refine pm_getf (v := 87) hC 0 fl_X11_93 rfl rfl (by decide) rfl e108 dX11_more_49 ?_
            refine pm_aload_n hC 0 (by decide) dX11_more_52 rfl ?_
            refine pm_getf (v := 87) hC 0 fl_X11_97 rfl rfl (by decide) rfl e109 dX11_more_53 ?_
            refine pm_callV (ci := 4) (as := [(3, 87), (3, 87)]) (st := []) hC 78 c_X4_compareProducts_78_87_87 lm_X11_272 li_X4_compareProducts (by decide) (by decide) rfl rfl rfl (by decide) rfl rfl (Nat.le_of_ble_eq_true rfl) ⟨Nat.le_refl _, Or.inl rfl⟩ dX11_more_56 ⟨rfl, hV105⟩ (fun r111 V112 hp113 => ?_)
            obtain ⟨y114, rfl, b115, hV116, hF117⟩ := hp113
            change pm_J X 59 [(0, (3, 0)), (1, (0, a1)), (2, (0, a2)), (3, (0, a3))] [(0, y114)] 118 V112
            have hF118 := pm_fr.tr hF107 hF117 (by decide)
            have e119 : V112 0 12 = 87 := by rw [hF117 0 (by decide)]; exact e108
            have e120 : V112 0 13 = 87 := by rw [hF117 0 (by decide)]; exact e109
            have e121 : V112 0 6 = 78 := by rw [hF117 0 (by decide)]; exact e110
            refine pm_istore (lv' := [(4, (0, y114)), (0, (3, 0)), (1, (0, a1)), (2, (0, a2)), (3, (0, a3))]) hC dX11_more_59 (by decide) rfl ?_
            refine pm_iload hC 0 dX11_more_61 rfl ?_
            refine pm_if_ne (tgt := 68) hC ⟨by omega, by omega⟩ dX11_more_63 (by decide) (fun c122 => ?_) (fun c122 => ?_)
            · skip
              refine pm_iload hC 0 dX11_more_68 rfl ?_
              refine pm_if_le (tgt := 77) hC ⟨by omega, by omega⟩ dX11_more_70 (by decide) (fun c123 => ?_) (fun c123 => ?_)
              · skip
                refine pm_iconst (v := 2) hC dX11_more_77 ?_
                exact pm_iret hC hR pm_nar0 ⟨2, rfl, ⟨by omega, by omega⟩, hV116, hF118⟩ dX11_more_78
              · skip
                refine pm_iconst (v := 1) hC dX11_more_73 ?_
                refine pm_goto (tgt := 78) hC dX11_more_74 (by decide) ?_
                exact pm_iret hC hR pm_nar0 ⟨1, rfl, ⟨by omega, by omega⟩, hV116, hF118⟩ dX11_more_78
            · skip
              refine pm_iconst (v := 0) hC dX11_more_66 ?_
              exact pm_iret hC hR pm_nar0 ⟨0, rfl, ⟨by omega, by omega⟩, hV116, hF118⟩ dX11_more_67
      · skip
        refine pm_iconst (v := (-1)) hC dX11_more_22 ?_
        exact pm_iret hC hR pm_nar0 ⟨(-1), rfl, ⟨by omega, by omega⟩, hV0, (pm_fr.rf (ws := [73, 74, 75, 76, 77, 79, 80, 81, 82, 84, 85, 86, 87, 88, 89]) (V := V0))⟩ dX11_more_23
set_option maxHeartbeats 4000000 in
set_option maxRecDepth 100000 in
theorem c_X11_keepsTried_0  : pm_K 4 yX11_keepsTried cX11_keepsTried 2 (some .boolean) (fun av V => av = [(3, 0)] ∧ pm_ok 0 90 V) (fun _ V r V' => ∃ y, r = some (0, y) ∧ (0 ≤ y ∧ y ≤ 1) ∧ pm_ok 0 90 V' ∧ pm_fr [0, 79, 80, 81, 82] V V') := by
  refine pm_MT.of (by decide) ⟨Nat.le_refl _, by decide⟩ (fun av V h => by rw [h.1]; exact (by decide : pm_words [(3, 0)] ≤ 2)) ?_
  rintro X av V0 hC - hR ⟨rfl, hV0⟩
  change pm_J X 0 [(0, (3, 0))] [] 118 V0
  refine pm_aload_n hC 0 (by decide) dX11_keepsTried_0 rfl ?_
  have e1 : V0 0 6 = 78 := hV0.one 0 6 (by decide) (by decide) rfl
  refine pm_getf (v := 78) hC 0 fl_X11_82 rfl rfl (by decide) rfl e1 dX11_keepsTried_1 ?_
  refine pm_aload_n hC 0 (by decide) dX11_keepsTried_4 rfl ?_
  rcases hV0.get2 0 13 (lo := 84) (hi := 87) (by decide) (by decide) rfl with e2 | e2
  · skip
    refine pm_getf (v := 84) hC 0 fl_X11_97 rfl rfl (by decide) rfl e2 dX11_keepsTried_5 ?_
    refine pm_aload_n hC 0 (by decide) dX11_keepsTried_8 rfl ?_
    rcases hV0.get2 0 12 (lo := 84) (hi := 87) (by decide) (by decide) rfl with e3 | e3
    · skip
      refine pm_getf (v := 84) hC 0 fl_X11_93 rfl rfl (by decide) rfl e3 dX11_keepsTried_9 ?_
      refine pm_callV (ci := 4) (as := [(3, 84), (3, 84)]) (st := []) hC 78 c_X4_compareProducts_78_84_84 lm_X11_272 li_X4_compareProducts (by decide) (by decide) rfl rfl rfl (by decide) rfl rfl (Nat.le_of_ble_eq_true rfl) ⟨Nat.le_refl _, Or.inl rfl⟩ dX11_keepsTried_12 ⟨rfl, hV0⟩ (fun r4 V5 hp6 => ?_)
      obtain ⟨y7, rfl, b8, hV9, hF10⟩ := hp6
      change pm_J X 15 [(0, (3, 0))] [(0, y7)] 118 V5
      have hF11 := pm_fr.tr (pm_fr.rf (ws := [0, 79, 80, 81, 82]) (V := V0)) hF10 (by decide)
      have e12 : V5 0 6 = 78 := by rw [hF10 0 (by decide)]; exact e1
      have e13 : V5 0 13 = 84 := by rw [hF10 0 (by decide)]; exact e2
      have e14 : V5 0 12 = 84 := by rw [hF10 0 (by decide)]; exact e3
      refine pm_if_gt (tgt := 20) hC ⟨by omega, by omega⟩ dX11_keepsTried_15 (by decide) (fun c15 => ?_) (fun c15 => ?_)
      · skip
        refine pm_aload_n hC 0 (by decide) dX11_keepsTried_20 rfl ?_
        refine pm_getf (v := 84) hC 0 fl_X11_93 rfl rfl (by decide) rfl e14 dX11_keepsTried_21 ?_
        refine pm_astore_n (lv' := [(1, (3, 84)), (0, (3, 0))]) hC (by decide) dX11_keepsTried_24 (by decide) rfl ?_
        refine pm_aload_n hC 1 (by decide) dX11_keepsTried_25 rfl ?_
        refine pm_aload_n hC 1 (by decide) dX11_keepsTried_26 rfl ?_
        refine pm_getf (v := 84) hC 0 fl_X11_97 rfl rfl (by decide) rfl e13 dX11_keepsTried_27 ?_
        refine pm_putf hC 0 fl_X11_93 rfl rfl rfl (by decide) rfl trivial dX11_keepsTried_30 ?_
        refine pm_aload_n hC 1 (by decide) dX11_keepsTried_33 rfl ?_
        refine pm_aload_n hC 0 (by decide) dX11_keepsTried_34 rfl ?_
        refine pm_putf hC 0 fl_X11_97 rfl rfl rfl (by decide) rfl trivial dX11_keepsTried_35 ?_
        refine pm_iconst (v := 1) hC dX11_keepsTried_38 ?_
        exact pm_iret hC hR (pm_narZ (by omega)) ⟨1, rfl, ⟨by omega, by omega⟩, ((hV9.put2 0 12 (x := 84) (lo := 84) (hi := 87) rfl ⟨by omega, by decide⟩).put2 0 13 (x := 84) (lo := 84) (hi := 87) rfl ⟨by omega, by decide⟩), ((hF11.up 0 12 84 rfl).up 0 13 84 rfl)⟩ dX11_keepsTried_39
      · skip
        refine pm_iconst (v := 0) hC dX11_keepsTried_18 ?_
        exact pm_iret hC hR (pm_narZ (by omega)) ⟨0, rfl, ⟨by omega, by omega⟩, hV9, hF11⟩ dX11_keepsTried_19
    · skip
      refine pm_getf (v := 87) hC 0 fl_X11_93 rfl rfl (by decide) rfl e3 dX11_keepsTried_9 ?_
      refine pm_callV (ci := 4) (as := [(3, 84), (3, 87)]) (st := []) hC 78 c_X4_compareProducts_78_84_87 lm_X11_272 li_X4_compareProducts (by decide) (by decide) rfl rfl rfl (by decide) rfl rfl (Nat.le_of_ble_eq_true rfl) ⟨Nat.le_refl _, Or.inl rfl⟩ dX11_keepsTried_12 ⟨rfl, hV0⟩ (fun r16 V17 hp18 => ?_)
      obtain ⟨y19, rfl, b20, hV21, hF22⟩ := hp18
      change pm_J X 15 [(0, (3, 0))] [(0, y19)] 118 V17
      have hF23 := pm_fr.tr (pm_fr.rf (ws := [0, 79, 80, 81, 82]) (V := V0)) hF22 (by decide)
      have e24 : V17 0 6 = 78 := by rw [hF22 0 (by decide)]; exact e1
      have e25 : V17 0 13 = 84 := by rw [hF22 0 (by decide)]; exact e2
      have e26 : V17 0 12 = 87 := by rw [hF22 0 (by decide)]; exact e3
      refine pm_if_gt (tgt := 20) hC ⟨by omega, by omega⟩ dX11_keepsTried_15 (by decide) (fun c27 => ?_) (fun c27 => ?_)
      · skip
        refine pm_aload_n hC 0 (by decide) dX11_keepsTried_20 rfl ?_
        refine pm_getf (v := 87) hC 0 fl_X11_93 rfl rfl (by decide) rfl e26 dX11_keepsTried_21 ?_
        refine pm_astore_n (lv' := [(1, (3, 87)), (0, (3, 0))]) hC (by decide) dX11_keepsTried_24 (by decide) rfl ?_
        refine pm_aload_n hC 1 (by decide) dX11_keepsTried_25 rfl ?_
        refine pm_aload_n hC 1 (by decide) dX11_keepsTried_26 rfl ?_
        refine pm_getf (v := 84) hC 0 fl_X11_97 rfl rfl (by decide) rfl e25 dX11_keepsTried_27 ?_
        refine pm_putf hC 0 fl_X11_93 rfl rfl rfl (by decide) rfl trivial dX11_keepsTried_30 ?_
        refine pm_aload_n hC 1 (by decide) dX11_keepsTried_33 rfl ?_
        refine pm_aload_n hC 0 (by decide) dX11_keepsTried_34 rfl ?_
        refine pm_putf hC 0 fl_X11_97 rfl rfl rfl (by decide) rfl trivial dX11_keepsTried_35 ?_
        refine pm_iconst (v := 1) hC dX11_keepsTried_38 ?_
        exact pm_iret hC hR (pm_narZ (by omega)) ⟨1, rfl, ⟨by omega, by omega⟩, ((hV21.put2 0 12 (x := 84) (lo := 84) (hi := 87) rfl ⟨by omega, by decide⟩).put2 0 13 (x := 87) (lo := 84) (hi := 87) rfl ⟨by omega, by decide⟩), ((hF23.up 0 12 84 rfl).up 0 13 87 rfl)⟩ dX11_keepsTried_39
      · skip
        refine pm_iconst (v := 0) hC dX11_keepsTried_18 ?_
        exact pm_iret hC hR (pm_narZ (by omega)) ⟨0, rfl, ⟨by omega, by omega⟩, hV21, hF23⟩ dX11_keepsTried_19
  · skip
    refine pm_getf (v := 87) hC 0 fl_X11_97 rfl rfl (by decide) rfl e2 dX11_keepsTried_5 ?_
    refine pm_aload_n hC 0 (by decide) dX11_keepsTried_8 rfl ?_
    rcases hV0.get2 0 12 (lo := 84) (hi := 87) (by decide) (by decide) rfl with e28 | e28
    · skip
      refine pm_getf (v := 84) hC 0 fl_X11_93 rfl rfl (by decide) rfl e28 dX11_keepsTried_9 ?_
      refine pm_callV (ci := 4) (as := [(3, 87), (3, 84)]) (st := []) hC 78 c_X4_compareProducts_78_87_84 lm_X11_272 li_X4_compareProducts (by decide) (by decide) rfl rfl rfl (by decide) rfl rfl (Nat.le_of_ble_eq_true rfl) ⟨Nat.le_refl _, Or.inl rfl⟩ dX11_keepsTried_12 ⟨rfl, hV0⟩ (fun r29 V30 hp31 => ?_)
      obtain ⟨y32, rfl, b33, hV34, hF35⟩ := hp31
      change pm_J X 15 [(0, (3, 0))] [(0, y32)] 118 V30
      have hF36 := pm_fr.tr (pm_fr.rf (ws := [0, 79, 80, 81, 82]) (V := V0)) hF35 (by decide)
      have e37 : V30 0 6 = 78 := by rw [hF35 0 (by decide)]; exact e1
      have e38 : V30 0 13 = 87 := by rw [hF35 0 (by decide)]; exact e2
      have e39 : V30 0 12 = 84 := by rw [hF35 0 (by decide)]; exact e28
      refine pm_if_gt (tgt := 20) hC ⟨by omega, by omega⟩ dX11_keepsTried_15 (by decide) (fun c40 => ?_) (fun c40 => ?_)
      · skip
        refine pm_aload_n hC 0 (by decide) dX11_keepsTried_20 rfl ?_
        refine pm_getf (v := 84) hC 0 fl_X11_93 rfl rfl (by decide) rfl e39 dX11_keepsTried_21 ?_
        refine pm_astore_n (lv' := [(1, (3, 84)), (0, (3, 0))]) hC (by decide) dX11_keepsTried_24 (by decide) rfl ?_
        refine pm_aload_n hC 1 (by decide) dX11_keepsTried_25 rfl ?_
        refine pm_aload_n hC 1 (by decide) dX11_keepsTried_26 rfl ?_
        refine pm_getf (v := 87) hC 0 fl_X11_97 rfl rfl (by decide) rfl e38 dX11_keepsTried_27 ?_
        refine pm_putf hC 0 fl_X11_93 rfl rfl rfl (by decide) rfl trivial dX11_keepsTried_30 ?_
        refine pm_aload_n hC 1 (by decide) dX11_keepsTried_33 rfl ?_
        refine pm_aload_n hC 0 (by decide) dX11_keepsTried_34 rfl ?_
        refine pm_putf hC 0 fl_X11_97 rfl rfl rfl (by decide) rfl trivial dX11_keepsTried_35 ?_
        refine pm_iconst (v := 1) hC dX11_keepsTried_38 ?_
        exact pm_iret hC hR (pm_narZ (by omega)) ⟨1, rfl, ⟨by omega, by omega⟩, ((hV34.put2 0 12 (x := 87) (lo := 84) (hi := 87) rfl ⟨by omega, by decide⟩).put2 0 13 (x := 84) (lo := 84) (hi := 87) rfl ⟨by omega, by decide⟩), ((hF36.up 0 12 87 rfl).up 0 13 84 rfl)⟩ dX11_keepsTried_39
      · skip
        refine pm_iconst (v := 0) hC dX11_keepsTried_18 ?_
        exact pm_iret hC hR (pm_narZ (by omega)) ⟨0, rfl, ⟨by omega, by omega⟩, hV34, hF36⟩ dX11_keepsTried_19
    · skip
      refine pm_getf (v := 87) hC 0 fl_X11_93 rfl rfl (by decide) rfl e28 dX11_keepsTried_9 ?_
      refine pm_callV (ci := 4) (as := [(3, 87), (3, 87)]) (st := []) hC 78 c_X4_compareProducts_78_87_87 lm_X11_272 li_X4_compareProducts (by decide) (by decide) rfl rfl rfl (by decide) rfl rfl (Nat.le_of_ble_eq_true rfl) ⟨Nat.le_refl _, Or.inl rfl⟩ dX11_keepsTried_12 ⟨rfl, hV0⟩ (fun r41 V42 hp43 => ?_)
      obtain ⟨y44, rfl, b45, hV46, hF47⟩ := hp43
      change pm_J X 15 [(0, (3, 0))] [(0, y44)] 118 V42
      have hF48 := pm_fr.tr (pm_fr.rf (ws := [0, 79, 80, 81, 82]) (V := V0)) hF47 (by decide)
      have e49 : V42 0 6 = 78 := by rw [hF47 0 (by decide)]; exact e1
      have e50 : V42 0 13 = 87 := by rw [hF47 0 (by decide)]; exact e2
      have e51 : V42 0 12 = 87 := by rw [hF47 0 (by decide)]; exact e28
      refine pm_if_gt (tgt := 20) hC ⟨by omega, by omega⟩ dX11_keepsTried_15 (by decide) (fun c52 => ?_) (fun c52 => ?_)
      · skip
        refine pm_aload_n hC 0 (by decide) dX11_keepsTried_20 rfl ?_
        refine pm_getf (v := 87) hC 0 fl_X11_93 rfl rfl (by decide) rfl e51 dX11_keepsTried_21 ?_
        refine pm_astore_n (lv' := [(1, (3, 87)), (0, (3, 0))]) hC (by decide) dX11_keepsTried_24 (by decide) rfl ?_
        refine pm_aload_n hC 1 (by decide) dX11_keepsTried_25 rfl ?_
        refine pm_aload_n hC 1 (by decide) dX11_keepsTried_26 rfl ?_
        refine pm_getf (v := 87) hC 0 fl_X11_97 rfl rfl (by decide) rfl e50 dX11_keepsTried_27 ?_
        refine pm_putf hC 0 fl_X11_93 rfl rfl rfl (by decide) rfl trivial dX11_keepsTried_30 ?_
        refine pm_aload_n hC 1 (by decide) dX11_keepsTried_33 rfl ?_
        refine pm_aload_n hC 0 (by decide) dX11_keepsTried_34 rfl ?_
        refine pm_putf hC 0 fl_X11_97 rfl rfl rfl (by decide) rfl trivial dX11_keepsTried_35 ?_
        refine pm_iconst (v := 1) hC dX11_keepsTried_38 ?_
        exact pm_iret hC hR (pm_narZ (by omega)) ⟨1, rfl, ⟨by omega, by omega⟩, ((hV46.put2 0 12 (x := 87) (lo := 84) (hi := 87) rfl ⟨by omega, by decide⟩).put2 0 13 (x := 87) (lo := 84) (hi := 87) rfl ⟨by omega, by decide⟩), ((hF48.up 0 12 87 rfl).up 0 13 87 rfl)⟩ dX11_keepsTried_39
      · skip
        refine pm_iconst (v := 0) hC dX11_keepsTried_18 ?_
        exact pm_iret hC hR (pm_narZ (by omega)) ⟨0, rfl, ⟨by omega, by omega⟩, hV46, hF48⟩ dX11_keepsTried_19
set_option maxHeartbeats 4000000 in
set_option maxRecDepth 100000 in
theorem c_X11_best_0 (a1 : Int) (h0 : (-2147483648) ≤ a1 ∧ a1 ≤ 2147483647) : pm_K 6 yX11_best cX11_best 4 (some .int) (fun av V => av = [(3, 0), (0, a1)] ∧ pm_ok 0 90 V) (fun _ V r V' => ∃ y, r = some (0, y) ∧ ((-1) ≤ y ∧ y ≤ 8) ∧ pm_ok 0 90 V' ∧ pm_fr [0, 73, 74, 75, 76, 77, 79, 80, 81, 82, 84, 85, 86, 87, 88, 89] V V') := by
  refine pm_MT.of (by decide) ⟨Nat.le_refl _, by decide⟩ (fun av V h => by rw [h.1]; exact (by decide : pm_words [(3, 0), (0, 0)] ≤ 4)) ?_
  rintro X av V0 hC - hR ⟨rfl, hV0⟩
  change pm_J X 0 [(0, (3, 0)), (1, (0, a1))] [] 118 V0
  refine pm_aload_n hC 0 (by decide) dX11_best_0 rfl ?_
  refine pm_callV (ci := 11) (as := []) (st := []) hC 0 c_X11_hasScene_0 lm_X11_165 li_X11_hasScene (by decide) (by decide) rfl rfl rfl (by decide) rfl rfl (Nat.le_of_ble_eq_true rfl) ⟨Nat.le_refl _, Or.inl rfl⟩ dX11_best_1 ⟨rfl, hV0⟩ (fun r1 V2 hp3 => ?_)
  obtain ⟨y4, rfl, b5, rfl⟩ := hp3
  change pm_J X 4 [(0, (3, 0)), (1, (0, a1))] [(0, y4)] 118 V0
  refine pm_if_eq (tgt := 15) hC ⟨by omega, by omega⟩ dX11_best_4 (by decide) (fun c6 => ?_) (fun c6 => ?_)
  · skip
    refine pm_iconst (v := (-1)) hC dX11_best_15 ?_
    exact pm_iret hC hR pm_nar0 ⟨(-1), rfl, ⟨by omega, by omega⟩, hV0, (pm_fr.rf (ws := [0, 73, 74, 75, 76, 77, 79, 80, 81, 82, 84, 85, 86, 87, 88, 89]) (V := V0))⟩ dX11_best_16
  · skip
    refine pm_aload_n hC 0 (by decide) dX11_best_7 rfl ?_
    refine pm_iload_n hC 1 dX11_best_8 rfl ?_
    refine pm_callV (ci := 11) (as := [(0, a1)]) (st := []) hC 0 (c_X11_isPersonOrAll_0 a1 ⟨by omega, by omega⟩) lm_X11_265 li_X11_isPersonOrAll (by decide) (by decide) rfl rfl rfl (by decide) rfl rfl (Nat.le_of_ble_eq_true rfl) ⟨Nat.le_refl _, Or.inl rfl⟩ dX11_best_9 ⟨rfl, hV0⟩ (fun r7 V8 hp9 => ?_)
    obtain ⟨y10, rfl, b11, rfl⟩ := hp9
    change pm_J X 12 [(0, (3, 0)), (1, (0, a1))] [(0, y10)] 118 V0
    refine pm_if_ne (tgt := 17) hC ⟨by omega, by omega⟩ dX11_best_12 (by decide) (fun c12 => ?_) (fun c12 => ?_)
    · skip
      refine pm_iconst (v := 0) hC dX11_best_17 ?_
      refine pm_istore_n (lv' := [(2, (0, 0)), (0, (3, 0)), (1, (0, a1))]) hC dX11_best_18 (by decide) rfl ?_
      refine pm_aload_n hC 1 (by decide) dX11_best_19 rfl ?_
      refine pm_aload_n hC 1 (by decide) dX11_best_20 rfl ?_
      rcases hV0.get2 0 12 (lo := 84) (hi := 87) (by decide) (by decide) rfl with e13 | e13
      · skip
        refine pm_getf (v := 84) hC 0 fl_X11_93 rfl rfl (by decide) rfl e13 dX11_best_21 ?_
        refine pm_iconst (v := 0) hC dX11_best_24 ?_
        refine pm_iload_n hC 2 dX11_best_25 rfl ?_
        refine pm_callV (ci := 11) (as := [(3, 84), (0, 0), (0, a1)]) (st := []) hC 0 (c_X11_gather_0_84 0 a1 ⟨by decide, by decide⟩ ⟨by omega, by omega⟩) lm_X11_268 li_X11_gather (by decide) (by decide) rfl rfl rfl (by decide) rfl rfl (Nat.le_of_ble_eq_true rfl) ⟨Nat.le_refl _, Or.inl rfl⟩ dX11_best_26 ⟨rfl, hV0⟩ (fun r14 V15 hp16 => ?_)
        obtain ⟨rfl, hV17, hF18⟩ := hp16
        change pm_J X 29 [(2, (0, 0)), (0, (3, 0)), (1, (0, a1))] [] 118 V15
        have hF19 := pm_fr.tr (pm_fr.rf (ws := [0, 73, 74, 75, 76, 77, 79, 80, 81, 82, 84, 85, 86, 87, 88, 89]) (V := V0)) hF18 (by decide)
        have e20 : V15 0 12 = 84 := by rw [hF18 0 (by decide)]; exact e13
        refine pm_iconst (v := 1) hC dX11_best_29 ?_
        refine pm_istore_n (lv' := [(3, (0, 1)), (2, (0, 0)), (0, (3, 0)), (1, (0, a1))]) hC dX11_best_30 (by decide) rfl ?_
        have L28 : ∀ (N30 : Nat) (x21 : Int) (x23 : Int) (V25 : pm_M), (0 ≤ x21 ∧ x21 ≤ 8) → (1 ≤ x23 ∧ x23 ≤ 8) → pm_ok 0 90 V25 → pm_fr [0, 73, 74, 75, 76, 77, 79, 80, 81, 82, 84, 85, 86, 87, 88, 89] V0 V25 → (Int.toNat (8 - x23)) = N30 → pm_J X 31 [(0, (3, 0)), (1, (0, a1)), (2, (0, x21)), (3, (0, x23))] [] 118 V25 := by
          intro N30
          induction N30 using Nat.strongRecOn with
          | _ N30 ih31 =>
          intro x21 x23 V25 b22 b24 hV26 hF27 hm29
          refine pm_iload_n hC 3 dX11_best_31 rfl ?_
          refine pm_bipush (v := 7) hC dX11_best_32 (by decide) ?_
          refine pm_icmp_ge (tgt := 62) hC ⟨by omega, by omega⟩ ⟨by decide, by decide⟩ dX11_best_34 (by decide) (fun c32 => ?_) (fun c32 => ?_)
          · skip
            refine pm_iload_n hC 2 dX11_best_62 rfl ?_
            exact pm_iret hC hR pm_nar0 ⟨x21, rfl, ⟨by omega, by omega⟩, hV26, hF27⟩ dX11_best_63
          · skip
            refine pm_aload_n hC 0 (by decide) dX11_best_37 rfl ?_
            refine pm_aload_n hC 0 (by decide) dX11_best_38 rfl ?_
            rcases hV26.get2 0 13 (lo := 84) (hi := 87) (by decide) (by decide) rfl with e33 | e33
            · skip
              refine pm_getf (v := 84) hC 0 fl_X11_97 rfl rfl (by decide) rfl e33 dX11_best_39 ?_
              refine pm_iload_n hC 3 dX11_best_42 rfl ?_
              refine pm_iload_n hC 1 dX11_best_43 rfl ?_
              refine pm_callV (ci := 11) (as := [(3, 84), (0, x23), (0, a1)]) (st := []) hC 0 (c_X11_gather_0_84 x23 a1 ⟨by omega, by omega⟩ ⟨by omega, by omega⟩) lm_X11_268 li_X11_gather (by decide) (by decide) rfl rfl rfl (by decide) rfl rfl (Nat.le_of_ble_eq_true rfl) ⟨Nat.le_refl _, Or.inl rfl⟩ dX11_best_44 ⟨rfl, hV26⟩ (fun r34 V35 hp36 => ?_)
              obtain ⟨rfl, hV37, hF38⟩ := hp36
              change pm_J X 47 [(0, (3, 0)), (1, (0, a1)), (2, (0, x21)), (3, (0, x23))] [] 118 V35
              have hF39 := pm_fr.tr hF27 hF38 (by decide)
              have e40 : V35 0 13 = 84 := by rw [hF38 0 (by decide)]; exact e33
              refine pm_aload_n hC 0 (by decide) dX11_best_47 rfl ?_
              refine pm_callV (ci := 11) (as := []) (st := []) hC 0 c_X11_keepsTried_0 lm_X11_276 li_X11_keepsTried (by decide) (by decide) rfl rfl rfl (by decide) rfl rfl (Nat.le_of_ble_eq_true rfl) ⟨Nat.le_refl _, Or.inl rfl⟩ dX11_best_48 ⟨rfl, hV37⟩ (fun r41 V42 hp43 => ?_)
              obtain ⟨y44, rfl, b45, hV46, hF47⟩ := hp43
              change pm_J X 51 [(0, (3, 0)), (1, (0, a1)), (2, (0, x21)), (3, (0, x23))] [(0, y44)] 118 V42
              have hF48 := pm_fr.tr hF39 hF47 (by decide)
              refine pm_if_eq (tgt := 56) hC ⟨by omega, by omega⟩ dX11_best_51 (by decide) (fun c49 => ?_) (fun c49 => ?_)
              · skip
                obtain ⟨x50, ei51⟩ : ∃ y : Int, x23 + 1 = y := ⟨_, rfl⟩
                refine pm_iinc (y := x50) (lv' := [(3, (0, x50)), (0, (3, 0)), (1, (0, a1)), (2, (0, x21))]) hC 3 dX11_best_56 (by decide) rfl ei51 rfl ?_
                refine pm_goto (tgt := 31) hC dX11_best_59 (by decide) ?_
                refine pm_lvsub [1, 2, 3, 0] (lv' := [(0, (3, 0)), (1, (0, a1)), (2, (0, x21)), (3, (0, x50))]) rfl ?_
                exact ih31 _ (by omega) x21 x50 V42 ⟨by omega, by omega⟩ ⟨by omega, by omega⟩ hV46 hF48 rfl
              · skip
                refine pm_iload_n hC 3 dX11_best_54 rfl ?_
                refine pm_istore_n (lv' := [(2, (0, x23)), (0, (3, 0)), (1, (0, a1)), (3, (0, x23))]) hC dX11_best_55 (by decide) rfl ?_
                obtain ⟨x52, ei53⟩ : ∃ y : Int, x23 + 1 = y := ⟨_, rfl⟩
                refine pm_iinc (y := x52) (lv' := [(3, (0, x52)), (2, (0, x23)), (0, (3, 0)), (1, (0, a1))]) hC 3 dX11_best_56 (by decide) rfl ei53 rfl ?_
                refine pm_goto (tgt := 31) hC dX11_best_59 (by decide) ?_
                refine pm_lvsub [2, 3, 1, 0] (lv' := [(0, (3, 0)), (1, (0, a1)), (2, (0, x23)), (3, (0, x52))]) rfl ?_
                exact ih31 _ (by omega) x23 x52 V42 ⟨by omega, by omega⟩ ⟨by omega, by omega⟩ hV46 hF48 rfl
            · skip
              refine pm_getf (v := 87) hC 0 fl_X11_97 rfl rfl (by decide) rfl e33 dX11_best_39 ?_
              refine pm_iload_n hC 3 dX11_best_42 rfl ?_
              refine pm_iload_n hC 1 dX11_best_43 rfl ?_
              refine pm_callV (ci := 11) (as := [(3, 87), (0, x23), (0, a1)]) (st := []) hC 0 (c_X11_gather_0_87 x23 a1 ⟨by omega, by omega⟩ ⟨by omega, by omega⟩) lm_X11_268 li_X11_gather (by decide) (by decide) rfl rfl rfl (by decide) rfl rfl (Nat.le_of_ble_eq_true rfl) ⟨Nat.le_refl _, Or.inl rfl⟩ dX11_best_44 ⟨rfl, hV26⟩ (fun r54 V55 hp56 => ?_)
              obtain ⟨rfl, hV57, hF58⟩ := hp56
              change pm_J X 47 [(0, (3, 0)), (1, (0, a1)), (2, (0, x21)), (3, (0, x23))] [] 118 V55
              have hF59 := pm_fr.tr hF27 hF58 (by decide)
              have e60 : V55 0 13 = 87 := by rw [hF58 0 (by decide)]; exact e33
              refine pm_aload_n hC 0 (by decide) dX11_best_47 rfl ?_
              refine pm_callV (ci := 11) (as := []) (st := []) hC 0 c_X11_keepsTried_0 lm_X11_276 li_X11_keepsTried (by decide) (by decide) rfl rfl rfl (by decide) rfl rfl (Nat.le_of_ble_eq_true rfl) ⟨Nat.le_refl _, Or.inl rfl⟩ dX11_best_48 ⟨rfl, hV57⟩ (fun r61 V62 hp63 => ?_)
              obtain ⟨y64, rfl, b65, hV66, hF67⟩ := hp63
              change pm_J X 51 [(0, (3, 0)), (1, (0, a1)), (2, (0, x21)), (3, (0, x23))] [(0, y64)] 118 V62
              have hF68 := pm_fr.tr hF59 hF67 (by decide)
              refine pm_if_eq (tgt := 56) hC ⟨by omega, by omega⟩ dX11_best_51 (by decide) (fun c69 => ?_) (fun c69 => ?_)
              · skip
                obtain ⟨x70, ei71⟩ : ∃ y : Int, x23 + 1 = y := ⟨_, rfl⟩
                refine pm_iinc (y := x70) (lv' := [(3, (0, x70)), (0, (3, 0)), (1, (0, a1)), (2, (0, x21))]) hC 3 dX11_best_56 (by decide) rfl ei71 rfl ?_
                refine pm_goto (tgt := 31) hC dX11_best_59 (by decide) ?_
                refine pm_lvsub [1, 2, 3, 0] (lv' := [(0, (3, 0)), (1, (0, a1)), (2, (0, x21)), (3, (0, x70))]) rfl ?_
                exact ih31 _ (by omega) x21 x70 V62 ⟨by omega, by omega⟩ ⟨by omega, by omega⟩ hV66 hF68 rfl
              · skip
                refine pm_iload_n hC 3 dX11_best_54 rfl ?_
                refine pm_istore_n (lv' := [(2, (0, x23)), (0, (3, 0)), (1, (0, a1)), (3, (0, x23))]) hC dX11_best_55 (by decide) rfl ?_
                obtain ⟨x72, ei73⟩ : ∃ y : Int, x23 + 1 = y := ⟨_, rfl⟩
                refine pm_iinc (y := x72) (lv' := [(3, (0, x72)), (2, (0, x23)), (0, (3, 0)), (1, (0, a1))]) hC 3 dX11_best_56 (by decide) rfl ei73 rfl ?_
                refine pm_goto (tgt := 31) hC dX11_best_59 (by decide) ?_
                refine pm_lvsub [2, 3, 1, 0] (lv' := [(0, (3, 0)), (1, (0, a1)), (2, (0, x23)), (3, (0, x72))]) rfl ?_
                exact ih31 _ (by omega) x23 x72 V62 ⟨by omega, by omega⟩ ⟨by omega, by omega⟩ hV66 hF68 rfl
        refine pm_lvsub [2, 3, 1, 0] (lv' := [(0, (3, 0)), (1, (0, a1)), (2, (0, 0)), (3, (0, 1))]) rfl ?_
        exact L28 _ 0 1 V15 ⟨by decide, by decide⟩ ⟨by decide, by decide⟩ hV17 hF19 rfl
      · skip
        refine pm_getf (v := 87) hC 0 fl_X11_93 rfl rfl (by decide) rfl e13 dX11_best_21 ?_
        refine pm_iconst (v := 0) hC dX11_best_24 ?_
        refine pm_iload_n hC 2 dX11_best_25 rfl ?_
        refine pm_callV (ci := 11) (as := [(3, 87), (0, 0), (0, a1)]) (st := []) hC 0 (c_X11_gather_0_87 0 a1 ⟨by decide, by decide⟩ ⟨by omega, by omega⟩) lm_X11_268 li_X11_gather (by decide) (by decide) rfl rfl rfl (by decide) rfl rfl (Nat.le_of_ble_eq_true rfl) ⟨Nat.le_refl _, Or.inl rfl⟩ dX11_best_26 ⟨rfl, hV0⟩ (fun r74 V75 hp76 => ?_)
        obtain ⟨rfl, hV77, hF78⟩ := hp76
        change pm_J X 29 [(2, (0, 0)), (0, (3, 0)), (1, (0, a1))] [] 118 V75
        have hF79 := pm_fr.tr (pm_fr.rf (ws := [0, 73, 74, 75, 76, 77, 79, 80, 81, 82, 84, 85, 86, 87, 88, 89]) (V := V0)) hF78 (by decide)
        have e80 : V75 0 12 = 87 := by rw [hF78 0 (by decide)]; exact e13
        refine pm_iconst (v := 1) hC dX11_best_29 ?_
        refine pm_istore_n (lv' := [(3, (0, 1)), (2, (0, 0)), (0, (3, 0)), (1, (0, a1))]) hC dX11_best_30 (by decide) rfl ?_
        have L88 : ∀ (N90 : Nat) (x81 : Int) (x83 : Int) (V85 : pm_M), (0 ≤ x81 ∧ x81 ≤ 8) → (1 ≤ x83 ∧ x83 ≤ 8) → pm_ok 0 90 V85 → pm_fr [0, 73, 74, 75, 76, 77, 79, 80, 81, 82, 84, 85, 86, 87, 88, 89] V0 V85 → (Int.toNat (8 - x83)) = N90 → pm_J X 31 [(0, (3, 0)), (1, (0, a1)), (2, (0, x81)), (3, (0, x83))] [] 118 V85 := by
          intro N90
          induction N90 using Nat.strongRecOn with
          | _ N90 ih91 =>
          intro x81 x83 V85 b82 b84 hV86 hF87 hm89
          refine pm_iload_n hC 3 dX11_best_31 rfl ?_
          refine pm_bipush (v := 7) hC dX11_best_32 (by decide) ?_
          refine pm_icmp_ge (tgt := 62) hC ⟨by omega, by omega⟩ ⟨by decide, by decide⟩ dX11_best_34 (by decide) (fun c92 => ?_) (fun c92 => ?_)
          · skip
            refine pm_iload_n hC 2 dX11_best_62 rfl ?_
            exact pm_iret hC hR pm_nar0 ⟨x81, rfl, ⟨by omega, by omega⟩, hV86, hF87⟩ dX11_best_63
          · skip
            refine pm_aload_n hC 0 (by decide) dX11_best_37 rfl ?_
            refine pm_aload_n hC 0 (by decide) dX11_best_38 rfl ?_
            rcases hV86.get2 0 13 (lo := 84) (hi := 87) (by decide) (by decide) rfl with e93 | e93
            · skip
              refine pm_getf (v := 84) hC 0 fl_X11_97 rfl rfl (by decide) rfl e93 dX11_best_39 ?_
              refine pm_iload_n hC 3 dX11_best_42 rfl ?_
              refine pm_iload_n hC 1 dX11_best_43 rfl ?_
              refine pm_callV (ci := 11) (as := [(3, 84), (0, x83), (0, a1)]) (st := []) hC 0 (c_X11_gather_0_84 x83 a1 ⟨by omega, by omega⟩ ⟨by omega, by omega⟩) lm_X11_268 li_X11_gather (by decide) (by decide) rfl rfl rfl (by decide) rfl rfl (Nat.le_of_ble_eq_true rfl) ⟨Nat.le_refl _, Or.inl rfl⟩ dX11_best_44 ⟨rfl, hV86⟩ (fun r94 V95 hp96 => ?_)
              obtain ⟨rfl, hV97, hF98⟩ := hp96
              change pm_J X 47 [(0, (3, 0)), (1, (0, a1)), (2, (0, x81)), (3, (0, x83))] [] 118 V95
              have hF99 := pm_fr.tr hF87 hF98 (by decide)
              have e100 : V95 0 13 = 84 := by rw [hF98 0 (by decide)]; exact e93
              refine pm_aload_n hC 0 (by decide) dX11_best_47 rfl ?_
              refine pm_callV (ci := 11) (as := []) (st := []) hC 0 c_X11_keepsTried_0 lm_X11_276 li_X11_keepsTried (by decide) (by decide) rfl rfl rfl (by decide) rfl rfl (Nat.le_of_ble_eq_true rfl) ⟨Nat.le_refl _, Or.inl rfl⟩ dX11_best_48 ⟨rfl, hV97⟩ (fun r101 V102 hp103 => ?_)
              obtain ⟨y104, rfl, b105, hV106, hF107⟩ := hp103
              change pm_J X 51 [(0, (3, 0)), (1, (0, a1)), (2, (0, x81)), (3, (0, x83))] [(0, y104)] 118 V102
              have hF108 := pm_fr.tr hF99 hF107 (by decide)
              refine pm_if_eq (tgt := 56) hC ⟨by omega, by omega⟩ dX11_best_51 (by decide) (fun c109 => ?_) (fun c109 => ?_)
              · skip
                obtain ⟨x110, ei111⟩ : ∃ y : Int, x83 + 1 = y := ⟨_, rfl⟩
                refine pm_iinc (y := x110) (lv' := [(3, (0, x110)), (0, (3, 0)), (1, (0, a1)), (2, (0, x81))]) hC 3 dX11_best_56 (by decide) rfl ei111 rfl ?_
                refine pm_goto (tgt := 31) hC dX11_best_59 (by decide) ?_
                refine pm_lvsub [1, 2, 3, 0] (lv' := [(0, (3, 0)), (1, (0, a1)), (2, (0, x81)), (3, (0, x110))]) rfl ?_
                exact ih91 _ (by omega) x81 x110 V102 ⟨by omega, by omega⟩ ⟨by omega, by omega⟩ hV106 hF108 rfl
              · skip
                refine pm_iload_n hC 3 dX11_best_54 rfl ?_
                refine pm_istore_n (lv' := [(2, (0, x83)), (0, (3, 0)), (1, (0, a1)), (3, (0, x83))]) hC dX11_best_55 (by decide) rfl ?_
                obtain ⟨x112, ei113⟩ : ∃ y : Int, x83 + 1 = y := ⟨_, rfl⟩
                refine pm_iinc (y := x112) (lv' := [(3, (0, x112)), (2, (0, x83)), (0, (3, 0)), (1, (0, a1))]) hC 3 dX11_best_56 (by decide) rfl ei113 rfl ?_
                refine pm_goto (tgt := 31) hC dX11_best_59 (by decide) ?_
                refine pm_lvsub [2, 3, 1, 0] (lv' := [(0, (3, 0)), (1, (0, a1)), (2, (0, x83)), (3, (0, x112))]) rfl ?_
                exact ih91 _ (by omega) x83 x112 V102 ⟨by omega, by omega⟩ ⟨by omega, by omega⟩ hV106 hF108 rfl
            · skip
              refine pm_getf (v := 87) hC 0 fl_X11_97 rfl rfl (by decide) rfl e93 dX11_best_39 ?_
              refine pm_iload_n hC 3 dX11_best_42 rfl ?_
              refine pm_iload_n hC 1 dX11_best_43 rfl ?_
              refine pm_callV (ci := 11) (as := [(3, 87), (0, x83), (0, a1)]) (st := []) hC 0 (c_X11_gather_0_87 x83 a1 ⟨by omega, by omega⟩ ⟨by omega, by omega⟩) lm_X11_268 li_X11_gather (by decide) (by decide) rfl rfl rfl (by decide) rfl rfl (Nat.le_of_ble_eq_true rfl) ⟨Nat.le_refl _, Or.inl rfl⟩ dX11_best_44 ⟨rfl, hV86⟩ (fun r114 V115 hp116 => ?_)
              obtain ⟨rfl, hV117, hF118⟩ := hp116
              change pm_J X 47 [(0, (3, 0)), (1, (0, a1)), (2, (0, x81)), (3, (0, x83))] [] 118 V115
              have hF119 := pm_fr.tr hF87 hF118 (by decide)
              have e120 : V115 0 13 = 87 := by rw [hF118 0 (by decide)]; exact e93
              refine pm_aload_n hC 0 (by decide) dX11_best_47 rfl ?_
              refine pm_callV (ci := 11) (as := []) (st := []) hC 0 c_X11_keepsTried_0 lm_X11_276 li_X11_keepsTried (by decide) (by decide) rfl rfl rfl (by decide) rfl rfl (Nat.le_of_ble_eq_true rfl) ⟨Nat.le_refl _, Or.inl rfl⟩ dX11_best_48 ⟨rfl, hV117⟩ (fun r121 V122 hp123 => ?_)
              obtain ⟨y124, rfl, b125, hV126, hF127⟩ := hp123
              change pm_J X 51 [(0, (3, 0)), (1, (0, a1)), (2, (0, x81)), (3, (0, x83))] [(0, y124)] 118 V122
              have hF128 := pm_fr.tr hF119 hF127 (by decide)
              refine pm_if_eq (tgt := 56) hC ⟨by omega, by omega⟩ dX11_best_51 (by decide) (fun c129 => ?_) (fun c129 => ?_)
              · skip
                obtain ⟨x130, ei131⟩ : ∃ y : Int, x83 + 1 = y := ⟨_, rfl⟩
                refine pm_iinc (y := x130) (lv' := [(3, (0, x130)), (0, (3, 0)), (1, (0, a1)), (2, (0, x81))]) hC 3 dX11_best_56 (by decide) rfl ei131 rfl ?_
                refine pm_goto (tgt := 31) hC dX11_best_59 (by decide) ?_
                refine pm_lvsub [1, 2, 3, 0] (lv' := [(0, (3, 0)), (1, (0, a1)), (2, (0, x81)), (3, (0, x130))]) rfl ?_
                exact ih91 _ (by omega) x81 x130 V122 ⟨by omega, by omega⟩ ⟨by omega, by omega⟩ hV126 hF128 rfl
              · skip
                refine pm_iload_n hC 3 dX11_best_54 rfl ?_
                refine pm_istore_n (lv' := [(2, (0, x83)), (0, (3, 0)), (1, (0, a1)), (3, (0, x83))]) hC dX11_best_55 (by decide) rfl ?_
                obtain ⟨x132, ei133⟩ : ∃ y : Int, x83 + 1 = y := ⟨_, rfl⟩
                refine pm_iinc (y := x132) (lv' := [(3, (0, x132)), (2, (0, x83)), (0, (3, 0)), (1, (0, a1))]) hC 3 dX11_best_56 (by decide) rfl ei133 rfl ?_
                refine pm_goto (tgt := 31) hC dX11_best_59 (by decide) ?_
                refine pm_lvsub [2, 3, 1, 0] (lv' := [(0, (3, 0)), (1, (0, a1)), (2, (0, x83)), (3, (0, x132))]) rfl ?_
                exact ih91 _ (by omega) x83 x132 V122 ⟨by omega, by omega⟩ ⟨by omega, by omega⟩ hV126 hF128 rfl
        refine pm_lvsub [2, 3, 1, 0] (lv' := [(0, (3, 0)), (1, (0, a1)), (2, (0, 0)), (3, (0, 1))]) rfl ?_
        exact L88 _ 0 1 V75 ⟨by decide, by decide⟩ ⟨by decide, by decide⟩ hV77 hF79 rfl
    · skip
      refine pm_iconst (v := (-1)) hC dX11_best_15 ?_
      exact pm_iret hC hR pm_nar0 ⟨(-1), rfl, ⟨by omega, by omega⟩, hV0, (pm_fr.rf (ws := [0, 73, 74, 75, 76, 77, 79, 80, 81, 82, 84, 85, 86, 87, 88, 89]) (V := V0))⟩ dX11_best_16
set_option maxHeartbeats 4000000 in
set_option maxRecDepth 100000 in
theorem c_X11_gatherOdds_0_84 (a1 a2 a3 a4 : Int) (h0 : 0 ≤ a1 ∧ a1 ≤ 9) (h1 : (-30) ≤ a2 ∧ a2 ≤ 30) (h2 : (-30) ≤ a3 ∧ a3 ≤ 30) (h3 : (-2147483648) ≤ a4 ∧ a4 ≤ 2147483647) : pm_K 5 yX11_gatherOdds cX11_gatherOdds 7 none (fun av V => av = [(3, 0), (3, 84), (0, a1), (0, a2), (0, a3), (0, a4)] ∧ pm_ok 0 90 V) (fun _ V r V' => r = none ∧ pm_ok 0 90 V' ∧ pm_fr [73, 74, 75, 76, 77, 84, 85, 86] V V') := by
  refine pm_MT.of (by decide) ⟨Nat.le_refl _, by decide⟩ (fun av V h => by rw [h.1]; exact (by decide : pm_words [(3, 0), (3, 0), (0, 0), (0, 0), (0, 0), (0, 0)] ≤ 7)) ?_
  rintro X av V0 hC - hR ⟨rfl, hV0⟩
  change pm_J X 0 [(0, (3, 0)), (1, (3, 84)), (2, (0, a1)), (3, (0, a2)), (4, (0, a3)), (5, (0, a4))] [] 118 V0
  refine pm_aload_n hC 1 (by decide) dX11_gatherOdds_0 rfl ?_
  refine pm_iconst (v := 0) hC dX11_gatherOdds_1 ?_
  refine pm_putf hC 84 fl_X11_371 rfl rfl rfl (by decide) rfl trivial dX11_gatherOdds_2 ?_
  refine pm_iconst (v := 0) hC dX11_gatherOdds_5 ?_
  refine pm_istore (lv' := [(6, (0, 0)), (0, (3, 0)), (1, (3, 84)), (2, (0, a1)), (3, (0, a2)), (4, (0, a3)), (5, (0, a4))]) hC dX11_gatherOdds_6 (by decide) rfl ?_
  have hV3 := (hV0.put 84 0 (x := 0) (lo := 0) (hi := 60) rfl ⟨by decide, by decide⟩)
  have hF4 := ((pm_fr.rf (ws := [73, 74, 75, 76, 77, 84, 85, 86]) (V := V0)).up 84 0 0 rfl)
  obtain ⟨V1, hv2⟩ : ∃ V, V = (pm_up V0 84 0 0) := ⟨_, rfl⟩
  rw [← hv2] at hV3 hF4
  rw [← hv2]
  have e5 : V1 84 0 = 0 := by rw [hv2]; rfl
  have L11 : ∀ (N13 : Nat) (x6 : Int) (V8 : pm_M), (0 ≤ x6 ∧ x6 ≤ 60) → pm_ok 0 90 V8 → pm_fr [73, 74, 75, 76, 77, 84, 85, 86] V0 V8 → (Int.toNat (60 - x6)) = N13 → pm_J X 8 [(0, (3, 0)), (1, (3, 84)), (2, (0, a1)), (3, (0, a2)), (4, (0, a3)), (5, (0, a4)), (6, (0, x6))] [] 118 V8 := by
    intro N13
    induction N13 using Nat.strongRecOn with
    | _ N13 ih14 =>
    intro x6 V8 b7 hV9 hF10 hm12
    refine pm_iload hC 6 dX11_gatherOdds_8 rfl ?_
    refine pm_aload_n hC 0 (by decide) dX11_gatherOdds_10 rfl ?_
    have e15 : V8 0 3 = 4 := hV9.one 0 3 (by decide) (by decide) rfl
    refine pm_getf (v := 4) hC 0 fl_X11_24 rfl rfl (by decide) rfl e15 dX11_gatherOdds_11 ?_
    obtain ⟨y16, e17⟩ : ∃ y, V8 4 6 = y := ⟨_, rfl⟩
    have b18 := hV9.get 4 6 (lo := 0) (hi := 60) (by decide) (by decide) rfl
    rw [e17] at b18
    refine pm_getf (v := y16) hC 4 fl_X11_162 rfl rfl (by decide) rfl e17 dX11_gatherOdds_14 ?_
    refine pm_icmp_ge (tgt := 126) hC ⟨by omega, by omega⟩ ⟨by omega, by omega⟩ dX11_gatherOdds_17 (by decide) (fun c19 => ?_) (fun c19 => ?_)
    · skip
      exact pm_vret hC hR ⟨rfl, hV9, hF10⟩ dX11_gatherOdds_126
    · skip
      refine pm_aload_n hC 0 (by decide) dX11_gatherOdds_20 rfl ?_
      refine pm_getf (v := 4) hC 0 fl_X11_24 rfl rfl (by decide) rfl e15 dX11_gatherOdds_21 ?_
      have e20 : V8 4 7 = 9 := hV9.one 4 7 (by decide) (by decide) rfl
      refine pm_getf (v := 9) hC 4 fl_X11_243 rfl rfl (by decide) rfl e20 dX11_gatherOdds_24 ?_
      refine pm_iload hC 6 dX11_gatherOdds_27 rfl ?_
      obtain ⟨y21, e22⟩ : ∃ y, V8 9 (x6 : Int).toNat = y := ⟨_, rfl⟩
      have b23 := hV9.get1 9 (x6 : Int).toNat (lo := 0) (hi := 999) (by decide) (show _ < 60 by omega) rfl
      rw [e22] at b23
      refine pm_iaload (len := 60) (v := y21) hC 9 rfl rfl (by decide) ⟨by omega, by omega⟩ (by decide) e22 dX11_gatherOdds_29 ?_
      refine pm_bipush (v := 100) hC dX11_gatherOdds_30 (by decide) ?_
      refine pm_idiv hC ⟨by omega, by omega, by omega⟩ ⟨by decide, by decide, by decide⟩ dX11_gatherOdds_32 ?_
      refine pm_iload_n hC 2 dX11_gatherOdds_33 rfl ?_
      refine pm_icmp_ne (tgt := 120) hC ⟨by omega, by omega⟩ ⟨by omega, by omega⟩ dX11_gatherOdds_34 (by decide) (fun c24 => ?_) (fun c24 => ?_)
      · skip
        obtain ⟨x25, ei26⟩ : ∃ y : Int, x6 + 1 = y := ⟨_, rfl⟩
        refine pm_iinc (y := x25) (lv' := [(6, (0, x25)), (0, (3, 0)), (1, (3, 84)), (2, (0, a1)), (3, (0, a2)), (4, (0, a3)), (5, (0, a4))]) hC 6 dX11_gatherOdds_120 (by decide) rfl ei26 rfl ?_
        refine pm_goto (tgt := 8) hC dX11_gatherOdds_123 (by decide) ?_
        refine pm_lvsub [1, 2, 3, 4, 5, 6, 0] (lv' := [(0, (3, 0)), (1, (3, 84)), (2, (0, a1)), (3, (0, a2)), (4, (0, a3)), (5, (0, a4)), (6, (0, x25))]) rfl ?_
        exact ih14 _ (by omega) x25 V8 ⟨by omega, by omega⟩ hV9 hF10 rfl
      · skip
        refine pm_aload_n hC 0 (by decide) dX11_gatherOdds_37 rfl ?_
        refine pm_aload_n hC 0 (by decide) dX11_gatherOdds_38 rfl ?_
        refine pm_getf (v := 4) hC 0 fl_X11_24 rfl rfl (by decide) rfl e15 dX11_gatherOdds_39 ?_
        refine pm_getf (v := 9) hC 4 fl_X11_243 rfl rfl (by decide) rfl e20 dX11_gatherOdds_42 ?_
        refine pm_iload hC 6 dX11_gatherOdds_45 rfl ?_
        refine pm_iaload (len := 60) (v := y21) hC 9 rfl rfl (by decide) ⟨by omega, by omega⟩ (by decide) e22 dX11_gatherOdds_47 ?_
        refine pm_aload_n hC 0 (by decide) dX11_gatherOdds_48 rfl ?_
        refine pm_getf (v := 4) hC 0 fl_X11_24 rfl rfl (by decide) rfl e15 dX11_gatherOdds_49 ?_
        have e27 : V8 4 8 = 10 := hV9.one 4 8 (by decide) (by decide) rfl
        refine pm_getf (v := 10) hC 4 fl_X11_246 rfl rfl (by decide) rfl e27 dX11_gatherOdds_52 ?_
        refine pm_iload hC 6 dX11_gatherOdds_55 rfl ?_
        obtain ⟨y28, e29⟩ : ∃ y, V8 10 (x6 : Int).toNat = y := ⟨_, rfl⟩
        have b30 := hV9.get 10 (x6 : Int).toNat (lo := 0) (hi := 99) (by decide) (show _ < 60 by omega) rfl
        rw [e29] at b30
        refine pm_iaload (len := 60) (v := y28) hC 10 rfl rfl (by decide) ⟨by omega, by omega⟩ (by decide) e29 dX11_gatherOdds_57 ?_
        refine pm_iload_n hC 3 dX11_gatherOdds_58 rfl ?_
        refine pm_iload hC 4 dX11_gatherOdds_59 rfl ?_
        refine pm_callV (ci := 11) (as := [(0, y21), (0, y28), (0, a2), (0, a3)]) (st := []) hC 0 (c_X11_poseAs_0 y21 y28 a2 a3 ⟨by omega, by omega⟩ ⟨by omega, by omega⟩ ⟨by omega, by omega⟩ ⟨by omega, by omega⟩ (by omega)) lm_X11_341 li_X11_poseAs (by decide) (by decide) rfl rfl rfl (by decide) rfl rfl (Nat.le_of_ble_eq_true rfl) ⟨Nat.le_refl _, Or.inl rfl⟩ dX11_gatherOdds_61 ⟨rfl, hV9⟩ (fun r31 V32 hp33 => ?_)
        obtain ⟨rfl, hV34, hF35⟩ := hp33
        change pm_J X 64 [(0, (3, 0)), (1, (3, 84)), (2, (0, a1)), (3, (0, a2)), (4, (0, a3)), (5, (0, a4)), (6, (0, x6))] [] 118 V32
        have hF36 := pm_fr.tr hF10 hF35 (by decide)
        have e37 : V32 0 3 = 4 := by rw [hF35 0 (by decide)]; exact e15
        have e38 : V32 4 6 = y16 := by rw [hF35 4 (by decide)]; exact e17
        have e39 : V32 4 7 = 9 := by rw [hF35 4 (by decide)]; exact e20
        have e40 : V32 4 8 = 10 := by rw [hF35 4 (by decide)]; exact e27
        refine pm_aload_n hC 0 (by decide) dX11_gatherOdds_64 rfl ?_
        have e41 : V32 0 5 = 73 := hV34.one 0 5 (by decide) (by decide) rfl
        refine pm_getf (v := 73) hC 0 fl_X11_75 rfl rfl (by decide) rfl e41 dX11_gatherOdds_65 ?_
        refine pm_iload hC 5 dX11_gatherOdds_68 rfl ?_
        refine pm_aload_n hC 0 (by decide) dX11_gatherOdds_70 rfl ?_
        refine pm_getf (v := 4) hC 0 fl_X11_24 rfl rfl (by decide) rfl e37 dX11_gatherOdds_71 ?_
        have e42 : V32 4 9 = 11 := hV34.one 4 9 (by decide) (by decide) rfl
        refine pm_getf (v := 11) hC 4 fl_X11_249 rfl rfl (by decide) rfl e42 dX11_gatherOdds_74 ?_
        refine pm_iload hC 6 dX11_gatherOdds_77 rfl ?_
        obtain ⟨y43, e44⟩ : ∃ y, V32 11 (x6 : Int).toNat = y := ⟨_, rfl⟩
        have b45 := hV34.get 11 (x6 : Int).toNat (lo := (-99)) (hi := 99) (by decide) (show _ < 60 by omega) rfl
        rw [e44] at b45
        refine pm_iaload (len := 60) (v := y43) hC 11 rfl rfl (by decide) ⟨by omega, by omega⟩ (by decide) e44 dX11_gatherOdds_79 ?_
        refine pm_callV (ci := 10) (as := [(0, a4), (0, y43)]) (st := []) hC 73 (c_X10_trustAt_73 a4 y43 ⟨by omega, by omega⟩ ⟨by omega, by omega⟩) lm_X11_306 li_X10_trustAt (by decide) (by decide) rfl rfl rfl (by decide) rfl rfl (Nat.le_of_ble_eq_true rfl) ⟨Nat.le_refl _, Or.inl rfl⟩ dX11_gatherOdds_80 ⟨rfl, hV34⟩ (fun r46 V47 hp48 => ?_)
        obtain ⟨rfl, hV49, hF50⟩ := hp48
        change pm_J X 83 [(0, (3, 0)), (1, (3, 84)), (2, (0, a1)), (3, (0, a2)), (4, (0, a3)), (5, (0, a4)), (6, (0, x6))] [] 118 V47
        have hF51 := pm_fr.tr hF36 hF50 (by decide)
        have e52 : V47 0 3 = 4 := by rw [hF50 0 (by decide)]; exact e37
        have e53 : V47 4 6 = y16 := by rw [hF50 4 (by decide)]; exact e38
        have e54 : V47 4 7 = 9 := by rw [hF50 4 (by decide)]; exact e39
        have e55 : V47 4 8 = 10 := by rw [hF50 4 (by decide)]; exact e40
        have e56 : V47 0 5 = 73 := by rw [hF50 0 (by decide)]; exact e41
        have e57 : V47 4 9 = 11 := by rw [hF50 4 (by decide)]; exact e42
        refine pm_aload_n hC 0 (by decide) dX11_gatherOdds_83 rfl ?_
        refine pm_getf (v := 73) hC 0 fl_X11_75 rfl rfl (by decide) rfl e56 dX11_gatherOdds_84 ?_
        refine pm_iconst (v := 4) hC dX11_gatherOdds_87 ?_
        refine pm_callV (ci := 10) (as := [(0, 4)]) (st := []) hC 73 (c_X10_weigh_73 4 ⟨by decide, by decide⟩) lm_X11_294 li_X10_weigh (by decide) (by decide) rfl rfl rfl (by decide) rfl rfl (Nat.le_of_ble_eq_true rfl) ⟨Nat.le_refl _, Or.inl rfl⟩ dX11_gatherOdds_88 ⟨rfl, hV49⟩ (fun r58 V59 hp60 => ?_)
        obtain ⟨rfl, hV61, hF62⟩ := hp60
        change pm_J X 91 [(0, (3, 0)), (1, (3, 84)), (2, (0, a1)), (3, (0, a2)), (4, (0, a3)), (5, (0, a4)), (6, (0, x6))] [] 118 V59
        have hF63 := pm_fr.tr hF51 hF62 (by decide)
        have e64 : V59 0 3 = 4 := by rw [hF62 0 (by decide)]; exact e52
        have e65 : V59 4 6 = y16 := by rw [hF62 4 (by decide)]; exact e53
        have e66 : V59 4 7 = 9 := by rw [hF62 4 (by decide)]; exact e54
        have e67 : V59 4 8 = 10 := by rw [hF62 4 (by decide)]; exact e55
        have e68 : V59 0 5 = 73 := by rw [hF62 0 (by decide)]; exact e56
        have e69 : V59 4 9 = 11 := by rw [hF62 4 (by decide)]; exact e57
        refine pm_aload_n hC 1 (by decide) dX11_gatherOdds_91 rfl ?_
        refine pm_aload_n hC 0 (by decide) dX11_gatherOdds_92 rfl ?_
        refine pm_getf (v := 73) hC 0 fl_X11_75 rfl rfl (by decide) rfl e68 dX11_gatherOdds_93 ?_
        rcases hV61.get2 73 13 (lo := 76) (hi := 77) (by decide) (by decide) rfl with e70 | e70
        · skip
          refine pm_getf (v := 76) hC 73 fl_X11_208 rfl rfl (by decide) rfl e70 dX11_gatherOdds_96 ?_
          refine pm_aload_n hC 0 (by decide) dX11_gatherOdds_99 rfl ?_
          refine pm_getf (v := 4) hC 0 fl_X11_24 rfl rfl (by decide) rfl e64 dX11_gatherOdds_100 ?_
          have e71 : V59 4 10 = 12 := hV61.one 4 10 (by decide) (by decide) rfl
          refine pm_getf (v := 12) hC 4 fl_X11_252 rfl rfl (by decide) rfl e71 dX11_gatherOdds_103 ?_
          refine pm_iload hC 6 dX11_gatherOdds_106 rfl ?_
          obtain ⟨y72, e73⟩ : ∃ y, V59 12 (x6 : Int).toNat = y := ⟨_, rfl⟩
          have b74 := hV61.get 12 (x6 : Int).toNat (lo := 0) (hi := 8) (by decide) (show _ < 60 by omega) rfl
          rw [e73] at b74
          refine pm_iaload (len := 60) (v := y72) hC 12 rfl rfl (by decide) ⟨by omega, by omega⟩ (by decide) e73 dX11_gatherOdds_108 ?_
          obtain ⟨y75, e76⟩ : ∃ y, V59 76 (y72 : Int).toNat = y := ⟨_, rfl⟩
          have b77 := hV61.get 76 (y72 : Int).toNat (lo := (-9223372036854775808)) (hi := 9223372036854775807) (by decide) (show _ < 9 by omega) rfl
          rw [e76] at b77
          refine pm_laload (len := 9) (v := y75) hC 76 rfl rfl (by decide) ⟨by omega, by omega⟩ (by decide) e76 dX11_gatherOdds_109 ?_
          refine pm_aload_n hC 0 (by decide) dX11_gatherOdds_110 rfl ?_
          refine pm_getf (v := 73) hC 0 fl_X11_75 rfl rfl (by decide) rfl e68 dX11_gatherOdds_111 ?_
          obtain ⟨y78, e79⟩ : ∃ y, V59 73 14 = y := ⟨_, rfl⟩
          have b80 := hV61.get 73 14 (lo := (-9223372036854775808)) (hi := 9223372036854775807) (by decide) (by decide) rfl
          rw [e79] at b80
          refine pm_getf (v := y78) hC 73 fl_X11_205 rfl rfl (by decide) rfl e79 dX11_gatherOdds_114 ?_
          refine pm_callV (ci := 0) (as := [(1, y75), (1, y78)]) (st := []) hC 84 (c_X0_add_84 y75 y78 ⟨by omega, by omega⟩ ⟨by omega, by omega⟩) lm_X11_374 li_X0_add (by decide) (by decide) rfl rfl rfl (by decide) rfl rfl (Nat.le_of_ble_eq_true rfl) ⟨Nat.le_refl _, Or.inl rfl⟩ dX11_gatherOdds_117 ⟨rfl, hV61⟩ (fun r81 V82 hp83 => ?_)
          obtain ⟨rfl, hV84, hF85⟩ := hp83
          change pm_J X 120 [(0, (3, 0)), (1, (3, 84)), (2, (0, a1)), (3, (0, a2)), (4, (0, a3)), (5, (0, a4)), (6, (0, x6))] [] 118 V82
          have hF86 := pm_fr.tr hF63 hF85 (by decide)
          have e87 : V82 0 3 = 4 := by rw [hF85 0 (by decide)]; exact e64
          have e88 : V82 4 6 = y16 := by rw [hF85 4 (by decide)]; exact e65
          have e89 : V82 4 7 = 9 := by rw [hF85 4 (by decide)]; exact e66
          have e90 : V82 4 8 = 10 := by rw [hF85 4 (by decide)]; exact e67
          have e91 : V82 0 5 = 73 := by rw [hF85 0 (by decide)]; exact e68
          have e92 : V82 4 9 = 11 := by rw [hF85 4 (by decide)]; exact e69
          have e93 : V82 73 13 = 76 := by rw [hF85 73 (by decide)]; exact e70
          have e94 : V82 4 10 = 12 := by rw [hF85 4 (by decide)]; exact e71
          have e95 : V82 73 14 = y78 := by rw [hF85 73 (by decide)]; exact e79
          obtain ⟨x96, ei97⟩ : ∃ y : Int, x6 + 1 = y := ⟨_, rfl⟩
          refine pm_iinc (y := x96) (lv' := [(6, (0, x96)), (0, (3, 0)), (1, (3, 84)), (2, (0, a1)), (3, (0, a2)), (4, (0, a3)), (5, (0, a4))]) hC 6 dX11_gatherOdds_120 (by decide) rfl ei97 rfl ?_
          refine pm_goto (tgt := 8) hC dX11_gatherOdds_123 (by decide) ?_
          refine pm_lvsub [1, 2, 3, 4, 5, 6, 0] (lv' := [(0, (3, 0)), (1, (3, 84)), (2, (0, a1)), (3, (0, a2)), (4, (0, a3)), (5, (0, a4)), (6, (0, x96))]) rfl ?_
          exact ih14 _ (by omega) x96 V82 ⟨by omega, by omega⟩ hV84 hF86 rfl
        · skip
          refine pm_getf (v := 77) hC 73 fl_X11_208 rfl rfl (by decide) rfl e70 dX11_gatherOdds_96 ?_
          refine pm_aload_n hC 0 (by decide) dX11_gatherOdds_99 rfl ?_
          refine pm_getf (v := 4) hC 0 fl_X11_24 rfl rfl (by decide) rfl e64 dX11_gatherOdds_100 ?_
          have e98 : V59 4 10 = 12 := hV61.one 4 10 (by decide) (by decide) rfl
          refine pm_getf (v := 12) hC 4 fl_X11_252 rfl rfl (by decide) rfl e98 dX11_gatherOdds_103 ?_
          refine pm_iload hC 6 dX11_gatherOdds_106 rfl ?_
          obtain ⟨y99, e100⟩ : ∃ y, V59 12 (x6 : Int).toNat = y := ⟨_, rfl⟩
          have b101 := hV61.get 12 (x6 : Int).toNat (lo := 0) (hi := 8) (by decide) (show _ < 60 by omega) rfl
          rw [e100] at b101
          refine pm_iaload (len := 60) (v := y99) hC 12 rfl rfl (by decide) ⟨by omega, by omega⟩ (by decide) e100 dX11_gatherOdds_108 ?_
          obtain ⟨y102, e103⟩ : ∃ y, V59 77 (y99 : Int).toNat = y := ⟨_, rfl⟩
          have b104 := hV61.get 77 (y99 : Int).toNat (lo := (-9223372036854775808)) (hi := 9223372036854775807) (by decide) (show _ < 9 by omega) rfl
          rw [e103] at b104
          refine pm_laload (len := 9) (v := y102) hC 77 rfl rfl (by decide) ⟨by omega, by omega⟩ (by decide) e103 dX11_gatherOdds_109 ?_
          refine pm_aload_n hC 0 (by decide) dX11_gatherOdds_110 rfl ?_
          refine pm_getf (v := 73) hC 0 fl_X11_75 rfl rfl (by decide) rfl e68 dX11_gatherOdds_111 ?_
          obtain ⟨y105, e106⟩ : ∃ y, V59 73 14 = y := ⟨_, rfl⟩
          have b107 := hV61.get 73 14 (lo := (-9223372036854775808)) (hi := 9223372036854775807) (by decide) (by decide) rfl
          rw [e106] at b107
          refine pm_getf (v := y105) hC 73 fl_X11_205 rfl rfl (by decide) rfl e106 dX11_gatherOdds_114 ?_
          refine pm_callV (ci := 0) (as := [(1, y102), (1, y105)]) (st := []) hC 84 (c_X0_add_84 y102 y105 ⟨by omega, by omega⟩ ⟨by omega, by omega⟩) lm_X11_374 li_X0_add (by decide) (by decide) rfl rfl rfl (by decide) rfl rfl (Nat.le_of_ble_eq_true rfl) ⟨Nat.le_refl _, Or.inl rfl⟩ dX11_gatherOdds_117 ⟨rfl, hV61⟩ (fun r108 V109 hp110 => ?_)
          obtain ⟨rfl, hV111, hF112⟩ := hp110
          change pm_J X 120 [(0, (3, 0)), (1, (3, 84)), (2, (0, a1)), (3, (0, a2)), (4, (0, a3)), (5, (0, a4)), (6, (0, x6))] [] 118 V109
          have hF113 := pm_fr.tr hF63 hF112 (by decide)
          have e114 : V109 0 3 = 4 := by rw [hF112 0 (by decide)]; exact e64
          have e115 : V109 4 6 = y16 := by rw [hF112 4 (by decide)]; exact e65
          have e116 : V109 4 7 = 9 := by rw [hF112 4 (by decide)]; exact e66
          have e117 : V109 4 8 = 10 := by rw [hF112 4 (by decide)]; exact e67
          have e118 : V109 0 5 = 73 := by rw [hF112 0 (by decide)]; exact e68
          have e119 : V109 4 9 = 11 := by rw [hF112 4 (by decide)]; exact e69
          have e120 : V109 73 13 = 77 := by rw [hF112 73 (by decide)]; exact e70
          have e121 : V109 4 10 = 12 := by rw [hF112 4 (by decide)]; exact e98
          have e122 : V109 73 14 = y105 := by rw [hF112 73 (by decide)]; exact e106
          obtain ⟨x123, ei124⟩ : ∃ y : Int, x6 + 1 = y := ⟨_, rfl⟩
          refine pm_iinc (y := x123) (lv' := [(6, (0, x123)), (0, (3, 0)), (1, (3, 84)), (2, (0, a1)), (3, (0, a2)), (4, (0, a3)), (5, (0, a4))]) hC 6 dX11_gatherOdds_120 (by decide) rfl ei124 rfl ?_
          refine pm_goto (tgt := 8) hC dX11_gatherOdds_123 (by decide) ?_
          refine pm_lvsub [1, 2, 3, 4, 5, 6, 0] (lv' := [(0, (3, 0)), (1, (3, 84)), (2, (0, a1)), (3, (0, a2)), (4, (0, a3)), (5, (0, a4)), (6, (0, x123))]) rfl ?_
          exact ih14 _ (by omega) x123 V109 ⟨by omega, by omega⟩ hV111 hF113 rfl
  refine pm_lvsub [1, 2, 3, 4, 5, 6, 0] (lv' := [(0, (3, 0)), (1, (3, 84)), (2, (0, a1)), (3, (0, a2)), (4, (0, a3)), (5, (0, a4)), (6, (0, 0))]) rfl ?_
  exact L11 _ 0 V1 ⟨by decide, by decide⟩ hV3 hF4 rfl
set_option maxHeartbeats 4000000 in
set_option maxRecDepth 100000 in
theorem c_X11_gatherOdds_0_87 (a1 a2 a3 a4 : Int) (h0 : 0 ≤ a1 ∧ a1 ≤ 9) (h1 : (-30) ≤ a2 ∧ a2 ≤ 30) (h2 : (-30) ≤ a3 ∧ a3 ≤ 30) (h3 : (-2147483648) ≤ a4 ∧ a4 ≤ 2147483647) : pm_K 5 yX11_gatherOdds cX11_gatherOdds 7 none (fun av V => av = [(3, 0), (3, 87), (0, a1), (0, a2), (0, a3), (0, a4)] ∧ pm_ok 0 90 V) (fun _ V r V' => r = none ∧ pm_ok 0 90 V' ∧ pm_fr [73, 74, 75, 76, 77, 87, 88, 89] V V') := by
  refine pm_MT.of (by decide) ⟨Nat.le_refl _, by decide⟩ (fun av V h => by rw [h.1]; exact (by decide : pm_words [(3, 0), (3, 0), (0, 0), (0, 0), (0, 0), (0, 0)] ≤ 7)) ?_
  rintro X av V0 hC - hR ⟨rfl, hV0⟩
  change pm_J X 0 [(0, (3, 0)), (1, (3, 87)), (2, (0, a1)), (3, (0, a2)), (4, (0, a3)), (5, (0, a4))] [] 118 V0
  refine pm_aload_n hC 1 (by decide) dX11_gatherOdds_0 rfl ?_
  refine pm_iconst (v := 0) hC dX11_gatherOdds_1 ?_
  refine pm_putf hC 87 fl_X11_371 rfl rfl rfl (by decide) rfl trivial dX11_gatherOdds_2 ?_
  refine pm_iconst (v := 0) hC dX11_gatherOdds_5 ?_
  refine pm_istore (lv' := [(6, (0, 0)), (0, (3, 0)), (1, (3, 87)), (2, (0, a1)), (3, (0, a2)), (4, (0, a3)), (5, (0, a4))]) hC dX11_gatherOdds_6 (by decide) rfl ?_
  have hV3 := (hV0.put 87 0 (x := 0) (lo := 0) (hi := 60) rfl ⟨by decide, by decide⟩)
  have hF4 := ((pm_fr.rf (ws := [73, 74, 75, 76, 77, 87, 88, 89]) (V := V0)).up 87 0 0 rfl)
  obtain ⟨V1, hv2⟩ : ∃ V, V = (pm_up V0 87 0 0) := ⟨_, rfl⟩
  rw [← hv2] at hV3 hF4
  rw [← hv2]
  have e5 : V1 87 0 = 0 := by rw [hv2]; rfl
  have L11 : ∀ (N13 : Nat) (x6 : Int) (V8 : pm_M), (0 ≤ x6 ∧ x6 ≤ 60) → pm_ok 0 90 V8 → pm_fr [73, 74, 75, 76, 77, 87, 88, 89] V0 V8 → (Int.toNat (60 - x6)) = N13 → pm_J X 8 [(0, (3, 0)), (1, (3, 87)), (2, (0, a1)), (3, (0, a2)), (4, (0, a3)), (5, (0, a4)), (6, (0, x6))] [] 118 V8 := by
    intro N13
    induction N13 using Nat.strongRecOn with
    | _ N13 ih14 =>
    intro x6 V8 b7 hV9 hF10 hm12
    refine pm_iload hC 6 dX11_gatherOdds_8 rfl ?_
    refine pm_aload_n hC 0 (by decide) dX11_gatherOdds_10 rfl ?_
    have e15 : V8 0 3 = 4 := hV9.one 0 3 (by decide) (by decide) rfl
    refine pm_getf (v := 4) hC 0 fl_X11_24 rfl rfl (by decide) rfl e15 dX11_gatherOdds_11 ?_
    obtain ⟨y16, e17⟩ : ∃ y, V8 4 6 = y := ⟨_, rfl⟩
    have b18 := hV9.get 4 6 (lo := 0) (hi := 60) (by decide) (by decide) rfl
    rw [e17] at b18
    refine pm_getf (v := y16) hC 4 fl_X11_162 rfl rfl (by decide) rfl e17 dX11_gatherOdds_14 ?_
    refine pm_icmp_ge (tgt := 126) hC ⟨by omega, by omega⟩ ⟨by omega, by omega⟩ dX11_gatherOdds_17 (by decide) (fun c19 => ?_) (fun c19 => ?_)
    · skip
      exact pm_vret hC hR ⟨rfl, hV9, hF10⟩ dX11_gatherOdds_126
    · skip
      refine pm_aload_n hC 0 (by decide) dX11_gatherOdds_20 rfl ?_
      refine pm_getf (v := 4) hC 0 fl_X11_24 rfl rfl (by decide) rfl e15 dX11_gatherOdds_21 ?_
      have e20 : V8 4 7 = 9 := hV9.one 4 7 (by decide) (by decide) rfl
      refine pm_getf (v := 9) hC 4 fl_X11_243 rfl rfl (by decide) rfl e20 dX11_gatherOdds_24 ?_
      refine pm_iload hC 6 dX11_gatherOdds_27 rfl ?_
      obtain ⟨y21, e22⟩ : ∃ y, V8 9 (x6 : Int).toNat = y := ⟨_, rfl⟩
      have b23 := hV9.get1 9 (x6 : Int).toNat (lo := 0) (hi := 999) (by decide) (show _ < 60 by omega) rfl
      rw [e22] at b23
      refine pm_iaload (len := 60) (v := y21) hC 9 rfl rfl (by decide) ⟨by omega, by omega⟩ (by decide) e22 dX11_gatherOdds_29 ?_
      refine pm_bipush (v := 100) hC dX11_gatherOdds_30 (by decide) ?_
      refine pm_idiv hC ⟨by omega, by omega, by omega⟩ ⟨by decide, by decide, by decide⟩ dX11_gatherOdds_32 ?_
      refine pm_iload_n hC 2 dX11_gatherOdds_33 rfl ?_
      refine pm_icmp_ne (tgt := 120) hC ⟨by omega, by omega⟩ ⟨by omega, by omega⟩ dX11_gatherOdds_34 (by decide) (fun c24 => ?_) (fun c24 => ?_)
      · skip
        obtain ⟨x25, ei26⟩ : ∃ y : Int, x6 + 1 = y := ⟨_, rfl⟩
        refine pm_iinc (y := x25) (lv' := [(6, (0, x25)), (0, (3, 0)), (1, (3, 87)), (2, (0, a1)), (3, (0, a2)), (4, (0, a3)), (5, (0, a4))]) hC 6 dX11_gatherOdds_120 (by decide) rfl ei26 rfl ?_
        refine pm_goto (tgt := 8) hC dX11_gatherOdds_123 (by decide) ?_
        refine pm_lvsub [1, 2, 3, 4, 5, 6, 0] (lv' := [(0, (3, 0)), (1, (3, 87)), (2, (0, a1)), (3, (0, a2)), (4, (0, a3)), (5, (0, a4)), (6, (0, x25))]) rfl ?_
        exact ih14 _ (by omega) x25 V8 ⟨by omega, by omega⟩ hV9 hF10 rfl
      · skip
        refine pm_aload_n hC 0 (by decide) dX11_gatherOdds_37 rfl ?_
        refine pm_aload_n hC 0 (by decide) dX11_gatherOdds_38 rfl ?_
        refine pm_getf (v := 4) hC 0 fl_X11_24 rfl rfl (by decide) rfl e15 dX11_gatherOdds_39 ?_
        refine pm_getf (v := 9) hC 4 fl_X11_243 rfl rfl (by decide) rfl e20 dX11_gatherOdds_42 ?_
        refine pm_iload hC 6 dX11_gatherOdds_45 rfl ?_
        refine pm_iaload (len := 60) (v := y21) hC 9 rfl rfl (by decide) ⟨by omega, by omega⟩ (by decide) e22 dX11_gatherOdds_47 ?_
        refine pm_aload_n hC 0 (by decide) dX11_gatherOdds_48 rfl ?_
        refine pm_getf (v := 4) hC 0 fl_X11_24 rfl rfl (by decide) rfl e15 dX11_gatherOdds_49 ?_
        have e27 : V8 4 8 = 10 := hV9.one 4 8 (by decide) (by decide) rfl
        refine pm_getf (v := 10) hC 4 fl_X11_246 rfl rfl (by decide) rfl e27 dX11_gatherOdds_52 ?_
        refine pm_iload hC 6 dX11_gatherOdds_55 rfl ?_
        obtain ⟨y28, e29⟩ : ∃ y, V8 10 (x6 : Int).toNat = y := ⟨_, rfl⟩
        have b30 := hV9.get 10 (x6 : Int).toNat (lo := 0) (hi := 99) (by decide) (show _ < 60 by omega) rfl
        rw [e29] at b30
        refine pm_iaload (len := 60) (v := y28) hC 10 rfl rfl (by decide) ⟨by omega, by omega⟩ (by decide) e29 dX11_gatherOdds_57 ?_
        refine pm_iload_n hC 3 dX11_gatherOdds_58 rfl ?_
        refine pm_iload hC 4 dX11_gatherOdds_59 rfl ?_
        refine pm_callV (ci := 11) (as := [(0, y21), (0, y28), (0, a2), (0, a3)]) (st := []) hC 0 (c_X11_poseAs_0 y21 y28 a2 a3 ⟨by omega, by omega⟩ ⟨by omega, by omega⟩ ⟨by omega, by omega⟩ ⟨by omega, by omega⟩ (by omega)) lm_X11_341 li_X11_poseAs (by decide) (by decide) rfl rfl rfl (by decide) rfl rfl (Nat.le_of_ble_eq_true rfl) ⟨Nat.le_refl _, Or.inl rfl⟩ dX11_gatherOdds_61 ⟨rfl, hV9⟩ (fun r31 V32 hp33 => ?_)
        obtain ⟨rfl, hV34, hF35⟩ := hp33
        change pm_J X 64 [(0, (3, 0)), (1, (3, 87)), (2, (0, a1)), (3, (0, a2)), (4, (0, a3)), (5, (0, a4)), (6, (0, x6))] [] 118 V32
        have hF36 := pm_fr.tr hF10 hF35 (by decide)
        have e37 : V32 0 3 = 4 := by rw [hF35 0 (by decide)]; exact e15
        have e38 : V32 4 6 = y16 := by rw [hF35 4 (by decide)]; exact e17
        have e39 : V32 4 7 = 9 := by rw [hF35 4 (by decide)]; exact e20
        have e40 : V32 4 8 = 10 := by rw [hF35 4 (by decide)]; exact e27
        refine pm_aload_n hC 0 (by decide) dX11_gatherOdds_64 rfl ?_
        have e41 : V32 0 5 = 73 := hV34.one 0 5 (by decide) (by decide) rfl
        refine pm_getf (v := 73) hC 0 fl_X11_75 rfl rfl (by decide) rfl e41 dX11_gatherOdds_65 ?_
        refine pm_iload hC 5 dX11_gatherOdds_68 rfl ?_
        refine pm_aload_n hC 0 (by decide) dX11_gatherOdds_70 rfl ?_
        refine pm_getf (v := 4) hC 0 fl_X11_24 rfl rfl (by decide) rfl e37 dX11_gatherOdds_71 ?_
        have e42 : V32 4 9 = 11 := hV34.one 4 9 (by decide) (by decide) rfl
        refine pm_getf (v := 11) hC 4 fl_X11_249 rfl rfl (by decide) rfl e42 dX11_gatherOdds_74 ?_
        refine pm_iload hC 6 dX11_gatherOdds_77 rfl ?_
        obtain ⟨y43, e44⟩ : ∃ y, V32 11 (x6 : Int).toNat = y := ⟨_, rfl⟩
        have b45 := hV34.get 11 (x6 : Int).toNat (lo := (-99)) (hi := 99) (by decide) (show _ < 60 by omega) rfl
        rw [e44] at b45
        refine pm_iaload (len := 60) (v := y43) hC 11 rfl rfl (by decide) ⟨by omega, by omega⟩ (by decide) e44 dX11_gatherOdds_79 ?_
        refine pm_callV (ci := 10) (as := [(0, a4), (0, y43)]) (st := []) hC 73 (c_X10_trustAt_73 a4 y43 ⟨by omega, by omega⟩ ⟨by omega, by omega⟩) lm_X11_306 li_X10_trustAt (by decide) (by decide) rfl rfl rfl (by decide) rfl rfl (Nat.le_of_ble_eq_true rfl) ⟨Nat.le_refl _, Or.inl rfl⟩ dX11_gatherOdds_80 ⟨rfl, hV34⟩ (fun r46 V47 hp48 => ?_)
        obtain ⟨rfl, hV49, hF50⟩ := hp48
        change pm_J X 83 [(0, (3, 0)), (1, (3, 87)), (2, (0, a1)), (3, (0, a2)), (4, (0, a3)), (5, (0, a4)), (6, (0, x6))] [] 118 V47
        have hF51 := pm_fr.tr hF36 hF50 (by decide)
        have e52 : V47 0 3 = 4 := by rw [hF50 0 (by decide)]; exact e37
        have e53 : V47 4 6 = y16 := by rw [hF50 4 (by decide)]; exact e38
        have e54 : V47 4 7 = 9 := by rw [hF50 4 (by decide)]; exact e39
        have e55 : V47 4 8 = 10 := by rw [hF50 4 (by decide)]; exact e40
        have e56 : V47 0 5 = 73 := by rw [hF50 0 (by decide)]; exact e41
        have e57 : V47 4 9 = 11 := by rw [hF50 4 (by decide)]; exact e42
        refine pm_aload_n hC 0 (by decide) dX11_gatherOdds_83 rfl ?_
        refine pm_getf (v := 73) hC 0 fl_X11_75 rfl rfl (by decide) rfl e56 dX11_gatherOdds_84 ?_
        refine pm_iconst (v := 4) hC dX11_gatherOdds_87 ?_
        refine pm_callV (ci := 10) (as := [(0, 4)]) (st := []) hC 73 (c_X10_weigh_73 4 ⟨by decide, by decide⟩) lm_X11_294 li_X10_weigh (by decide) (by decide) rfl rfl rfl (by decide) rfl rfl (Nat.le_of_ble_eq_true rfl) ⟨Nat.le_refl _, Or.inl rfl⟩ dX11_gatherOdds_88 ⟨rfl, hV49⟩ (fun r58 V59 hp60 => ?_)
        obtain ⟨rfl, hV61, hF62⟩ := hp60
        change pm_J X 91 [(0, (3, 0)), (1, (3, 87)), (2, (0, a1)), (3, (0, a2)), (4, (0, a3)), (5, (0, a4)), (6, (0, x6))] [] 118 V59
        have hF63 := pm_fr.tr hF51 hF62 (by decide)
        have e64 : V59 0 3 = 4 := by rw [hF62 0 (by decide)]; exact e52
        have e65 : V59 4 6 = y16 := by rw [hF62 4 (by decide)]; exact e53
        have e66 : V59 4 7 = 9 := by rw [hF62 4 (by decide)]; exact e54
        have e67 : V59 4 8 = 10 := by rw [hF62 4 (by decide)]; exact e55
        have e68 : V59 0 5 = 73 := by rw [hF62 0 (by decide)]; exact e56
        have e69 : V59 4 9 = 11 := by rw [hF62 4 (by decide)]; exact e57
        refine pm_aload_n hC 1 (by decide) dX11_gatherOdds_91 rfl ?_
        refine pm_aload_n hC 0 (by decide) dX11_gatherOdds_92 rfl ?_
        refine pm_getf (v := 73) hC 0 fl_X11_75 rfl rfl (by decide) rfl e68 dX11_gatherOdds_93 ?_
        rcases hV61.get2 73 13 (lo := 76) (hi := 77) (by decide) (by decide) rfl with e70 | e70
        · skip
          refine pm_getf (v := 76) hC 73 fl_X11_208 rfl rfl (by decide) rfl e70 dX11_gatherOdds_96 ?_
          refine pm_aload_n hC 0 (by decide) dX11_gatherOdds_99 rfl ?_
          refine pm_getf (v := 4) hC 0 fl_X11_24 rfl rfl (by decide) rfl e64 dX11_gatherOdds_100 ?_
          have e71 : V59 4 10 = 12 := hV61.one 4 10 (by decide) (by decide) rfl
          refine pm_getf (v := 12) hC 4 fl_X11_252 rfl rfl (by decide) rfl e71 dX11_gatherOdds_103 ?_
          refine pm_iload hC 6 dX11_gatherOdds_106 rfl ?_
          obtain ⟨y72, e73⟩ : ∃ y, V59 12 (x6 : Int).toNat = y := ⟨_, rfl⟩
          have b74 := hV61.get 12 (x6 : Int).toNat (lo := 0) (hi := 8) (by decide) (show _ < 60 by omega) rfl
          rw [e73] at b74
          refine pm_iaload (len := 60) (v := y72) hC 12 rfl rfl (by decide) ⟨by omega, by omega⟩ (by decide) e73 dX11_gatherOdds_108 ?_
          obtain ⟨y75, e76⟩ : ∃ y, V59 76 (y72 : Int).toNat = y := ⟨_, rfl⟩
          have b77 := hV61.get 76 (y72 : Int).toNat (lo := (-9223372036854775808)) (hi := 9223372036854775807) (by decide) (show _ < 9 by omega) rfl
          rw [e76] at b77
          refine pm_laload (len := 9) (v := y75) hC 76 rfl rfl (by decide) ⟨by omega, by omega⟩ (by decide) e76 dX11_gatherOdds_109 ?_
          refine pm_aload_n hC 0 (by decide) dX11_gatherOdds_110 rfl ?_
          refine pm_getf (v := 73) hC 0 fl_X11_75 rfl rfl (by decide) rfl e68 dX11_gatherOdds_111 ?_
          obtain ⟨y78, e79⟩ : ∃ y, V59 73 14 = y := ⟨_, rfl⟩
          have b80 := hV61.get 73 14 (lo := (-9223372036854775808)) (hi := 9223372036854775807) (by decide) (by decide) rfl
          rw [e79] at b80
          refine pm_getf (v := y78) hC 73 fl_X11_205 rfl rfl (by decide) rfl e79 dX11_gatherOdds_114 ?_
          refine pm_callV (ci := 0) (as := [(1, y75), (1, y78)]) (st := []) hC 87 (c_X0_add_87 y75 y78 ⟨by omega, by omega⟩ ⟨by omega, by omega⟩) lm_X11_374 li_X0_add (by decide) (by decide) rfl rfl rfl (by decide) rfl rfl (Nat.le_of_ble_eq_true rfl) ⟨Nat.le_refl _, Or.inl rfl⟩ dX11_gatherOdds_117 ⟨rfl, hV61⟩ (fun r81 V82 hp83 => ?_)
          obtain ⟨rfl, hV84, hF85⟩ := hp83
          change pm_J X 120 [(0, (3, 0)), (1, (3, 87)), (2, (0, a1)), (3, (0, a2)), (4, (0, a3)), (5, (0, a4)), (6, (0, x6))] [] 118 V82
          have hF86 := pm_fr.tr hF63 hF85 (by decide)
          have e87 : V82 0 3 = 4 := by rw [hF85 0 (by decide)]; exact e64
          have e88 : V82 4 6 = y16 := by rw [hF85 4 (by decide)]; exact e65
          have e89 : V82 4 7 = 9 := by rw [hF85 4 (by decide)]; exact e66
          have e90 : V82 4 8 = 10 := by rw [hF85 4 (by decide)]; exact e67
          have e91 : V82 0 5 = 73 := by rw [hF85 0 (by decide)]; exact e68
          have e92 : V82 4 9 = 11 := by rw [hF85 4 (by decide)]; exact e69
          have e93 : V82 73 13 = 76 := by rw [hF85 73 (by decide)]; exact e70
          have e94 : V82 4 10 = 12 := by rw [hF85 4 (by decide)]; exact e71
          have e95 : V82 73 14 = y78 := by rw [hF85 73 (by decide)]; exact e79
          obtain ⟨x96, ei97⟩ : ∃ y : Int, x6 + 1 = y := ⟨_, rfl⟩
          refine pm_iinc (y := x96) (lv' := [(6, (0, x96)), (0, (3, 0)), (1, (3, 87)), (2, (0, a1)), (3, (0, a2)), (4, (0, a3)), (5, (0, a4))]) hC 6 dX11_gatherOdds_120 (by decide) rfl ei97 rfl ?_
          refine pm_goto (tgt := 8) hC dX11_gatherOdds_123 (by decide) ?_
          refine pm_lvsub [1, 2, 3, 4, 5, 6, 0] (lv' := [(0, (3, 0)), (1, (3, 87)), (2, (0, a1)), (3, (0, a2)), (4, (0, a3)), (5, (0, a4)), (6, (0, x96))]) rfl ?_
          exact ih14 _ (by omega) x96 V82 ⟨by omega, by omega⟩ hV84 hF86 rfl
        · skip
          refine pm_getf (v := 77) hC 73 fl_X11_208 rfl rfl (by decide) rfl e70 dX11_gatherOdds_96 ?_
          refine pm_aload_n hC 0 (by decide) dX11_gatherOdds_99 rfl ?_
          refine pm_getf (v := 4) hC 0 fl_X11_24 rfl rfl (by decide) rfl e64 dX11_gatherOdds_100 ?_
          have e98 : V59 4 10 = 12 := hV61.one 4 10 (by decide) (by decide) rfl
          refine pm_getf (v := 12) hC 4 fl_X11_252 rfl rfl (by decide) rfl e98 dX11_gatherOdds_103 ?_
          refine pm_iload hC 6 dX11_gatherOdds_106 rfl ?_
          obtain ⟨y99, e100⟩ : ∃ y, V59 12 (x6 : Int).toNat = y := ⟨_, rfl⟩
          have b101 := hV61.get 12 (x6 : Int).toNat (lo := 0) (hi := 8) (by decide) (show _ < 60 by omega) rfl
          rw [e100] at b101
          refine pm_iaload (len := 60) (v := y99) hC 12 rfl rfl (by decide) ⟨by omega, by omega⟩ (by decide) e100 dX11_gatherOdds_108 ?_
          obtain ⟨y102, e103⟩ : ∃ y, V59 77 (y99 : Int).toNat = y := ⟨_, rfl⟩
          have b104 := hV61.get 77 (y99 : Int).toNat (lo := (-9223372036854775808)) (hi := 9223372036854775807) (by decide) (show _ < 9 by omega) rfl
          rw [e103] at b104
          refine pm_laload (len := 9) (v := y102) hC 77 rfl rfl (by decide) ⟨by omega, by omega⟩ (by decide) e103 dX11_gatherOdds_109 ?_
          refine pm_aload_n hC 0 (by decide) dX11_gatherOdds_110 rfl ?_
          refine pm_getf (v := 73) hC 0 fl_X11_75 rfl rfl (by decide) rfl e68 dX11_gatherOdds_111 ?_
          obtain ⟨y105, e106⟩ : ∃ y, V59 73 14 = y := ⟨_, rfl⟩
          have b107 := hV61.get 73 14 (lo := (-9223372036854775808)) (hi := 9223372036854775807) (by decide) (by decide) rfl
          rw [e106] at b107
          refine pm_getf (v := y105) hC 73 fl_X11_205 rfl rfl (by decide) rfl e106 dX11_gatherOdds_114 ?_
          refine pm_callV (ci := 0) (as := [(1, y102), (1, y105)]) (st := []) hC 87 (c_X0_add_87 y102 y105 ⟨by omega, by omega⟩ ⟨by omega, by omega⟩) lm_X11_374 li_X0_add (by decide) (by decide) rfl rfl rfl (by decide) rfl rfl (Nat.le_of_ble_eq_true rfl) ⟨Nat.le_refl _, Or.inl rfl⟩ dX11_gatherOdds_117 ⟨rfl, hV61⟩ (fun r108 V109 hp110 => ?_)
          obtain ⟨rfl, hV111, hF112⟩ := hp110
          change pm_J X 120 [(0, (3, 0)), (1, (3, 87)), (2, (0, a1)), (3, (0, a2)), (4, (0, a3)), (5, (0, a4)), (6, (0, x6))] [] 118 V109
          have hF113 := pm_fr.tr hF63 hF112 (by decide)
          have e114 : V109 0 3 = 4 := by rw [hF112 0 (by decide)]; exact e64
          have e115 : V109 4 6 = y16 := by rw [hF112 4 (by decide)]; exact e65
          have e116 : V109 4 7 = 9 := by rw [hF112 4 (by decide)]; exact e66
          have e117 : V109 4 8 = 10 := by rw [hF112 4 (by decide)]; exact e67
          have e118 : V109 0 5 = 73 := by rw [hF112 0 (by decide)]; exact e68
          have e119 : V109 4 9 = 11 := by rw [hF112 4 (by decide)]; exact e69
          have e120 : V109 73 13 = 77 := by rw [hF112 73 (by decide)]; exact e70
          have e121 : V109 4 10 = 12 := by rw [hF112 4 (by decide)]; exact e98
          have e122 : V109 73 14 = y105 := by rw [hF112 73 (by decide)]; exact e106
          obtain ⟨x123, ei124⟩ : ∃ y : Int, x6 + 1 = y := ⟨_, rfl⟩
          refine pm_iinc (y := x123) (lv' := [(6, (0, x123)), (0, (3, 0)), (1, (3, 87)), (2, (0, a1)), (3, (0, a2)), (4, (0, a3)), (5, (0, a4))]) hC 6 dX11_gatherOdds_120 (by decide) rfl ei124 rfl ?_
          refine pm_goto (tgt := 8) hC dX11_gatherOdds_123 (by decide) ?_
          refine pm_lvsub [1, 2, 3, 4, 5, 6, 0] (lv' := [(0, (3, 0)), (1, (3, 87)), (2, (0, a1)), (3, (0, a2)), (4, (0, a3)), (5, (0, a4)), (6, (0, x123))]) rfl ?_
          exact ih14 _ (by omega) x123 V109 ⟨by omega, by omega⟩ hV111 hF113 rfl
  refine pm_lvsub [1, 2, 3, 4, 5, 6, 0] (lv' := [(0, (3, 0)), (1, (3, 87)), (2, (0, a1)), (3, (0, a2)), (4, (0, a3)), (5, (0, a4)), (6, (0, 0))]) rfl ?_
  exact L11 _ 0 V1 ⟨by decide, by decide⟩ hV3 hF4 rfl
