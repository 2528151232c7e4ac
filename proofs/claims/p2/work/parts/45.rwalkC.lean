set_option maxHeartbeats 4000000 in
set_option maxRecDepth 100000 in
theorem B_X12_works (a1 a2 a3 : Int) (h0 : 0 ≤ a1 ∧ a1 ≤ 999) (h1 : 0 ≤ a2 ∧ a2 ≤ 99) (h2 : (-99) ≤ a3 ∧ a3 ≤ 99) (h3 : a1 % 10 ≤ 8 ∧ a1 / 10 % 10 ≤ 8) : pm_K 2 yX12_works cX12_works 7 none (fun av V => av = [(3, 90), (0, a1), (0, a2), (0, a3)] ∧ pm_oq pm_qB V ∧ (a1 % 10 < V 90 16) ∧ (a1 / 10 % 10 < V 90 16) ∧ pm_h1 V) (fun _ V r V' => r = none ∧ pm_oq pm_qB V' ∧ pm_fs [110, 111] [42, 43, 44, 45, 46, 47, 48, 49] V V' ∧ (1 ≤ V' 90 42 ∧ V' 90 42 ≤ 171) ∧ (1 ≤ V' 90 43 ∧ V' 90 43 ≤ 171) ∧ pm_w1 V' ∧ pm_w3 V') := by
  refine pm_MT.of (by decide) ⟨Nat.le_refl _, by decide⟩ (fun av V h => by rw [h.1]; exact (by decide : pm_words [(3, 0), (0, 0), (0, 0), (0, 0)] ≤ 7)) ?_
  rintro X av V0 hC - hR ⟨rfl, hV0, hmp0, hmp1, hn_pm_h1⟩
  change pm_J X 0 [(0, (3, 90)), (1, (0, a1)), (2, (0, a2)), (3, (0, a3))] [] 118 V0
  obtain ⟨y1, e2⟩ : ∃ y, V0 90 16 = y := ⟨_, rfl⟩
  have b3 := hV0.get 90 16 (lo := 2) (hi := 9) (by decide) (by decide) rfl
  rw [e2] at b3
  refine pm_iconst (v := 4) hC dX12_works_0 ?_
  refine pm_iload_n hC 1 dX12_works_1 rfl ?_
  refine pm_bipush (v := 100) hC dX12_works_2 (by decide) ?_
  refine pm_idiv hC ⟨by omega, by omega, by omega⟩ ⟨by decide, by decide, by decide⟩ dX12_works_4 ?_
  refine pm_imul hC dX12_works_5 ?_
  refine pm_istore (lv' := [(4, (0, (4 * (a1 / 100)))), (0, (3, 90)), (1, (0, a1)), (2, (0, a2)), (3, (0, a3))]) hC dX12_works_6 (by decide) rfl ?_
  refine pm_aload_n hC 1 (by decide) dX12_works_8 rfl ?_
  refine pm_iload_n hC 2 dX12_works_9 rfl ?_
  refine pm_bipush (v := 10) hC dX12_works_10 (by decide) ?_
  refine pm_idiv hC ⟨by omega, by omega, by omega⟩ ⟨by decide, by decide, by decide⟩ dX12_works_12 ?_
  refine pm_bipush (v := 10) hC dX12_works_13 (by decide) ?_
  refine pm_irem hC ⟨by omega, by omega, by omega⟩ ⟨by decide, by decide, by decide⟩ dX12_works_15 ?_
  refine pm_putf hC 90 fl_X12_305 rfl rfl rfl (by decide) rfl trivial dX12_works_16 ?_
  refine pm_aload_n hC 1 (by decide) dX12_works_19 rfl ?_
  refine pm_iload_n hC 2 dX12_works_20 rfl ?_
  refine pm_bipush (v := 10) hC dX12_works_21 (by decide) ?_
  refine pm_irem hC ⟨by omega, by omega, by omega⟩ ⟨by decide, by decide, by decide⟩ dX12_works_23 ?_
  refine pm_putf hC 90 fl_X12_308 rfl rfl rfl (by decide) rfl trivial dX12_works_24 ?_
  refine pm_aload_n hC 1 (by decide) dX12_works_27 rfl ?_
  refine pm_iconst (v := 1) hC dX12_works_28 ?_
  refine pm_aload_n hC 1 (by decide) dX12_works_29 rfl ?_
  have e4 : V0 90 18 = 98 := hV0.one 90 18 (by decide) (by decide) rfl
  refine pm_getf (v := 98) hC 90 fl_X12_34 rfl rfl (by decide) rfl e4 dX12_works_30 ?_
  refine pm_iconst (v := 0) hC dX12_works_33 ?_
  obtain ⟨y5, e6⟩ : ∃ y, V0 98 (0 : Int).toNat = y := ⟨_, rfl⟩
  have b7 := hV0.get 98 (0 : Int).toNat (lo := 1) (hi := 60) (t := 0) (by decide) (show _ < 4 by omega) rfl
  rw [e6] at b7
  refine pm_iaload (len := 4) (v := y5) hC 98 rfl rfl (by decide) ⟨by decide, by decide⟩ (by decide) e6 dX12_works_34 ?_
  refine pm_aload_n hC 1 (by decide) dX12_works_35 rfl ?_
  have e8 : V0 90 24 = 100 := hV0.one 90 24 (by decide) (by decide) rfl
  refine pm_getf (v := 100) hC 90 fl_X12_40 rfl rfl (by decide) rfl e8 dX12_works_36 ?_
  refine pm_iload hC 0 dX12_works_39 rfl ?_
  obtain ⟨y9, e10⟩ : ∃ y, V0 100 ((4 * (a1 / 100)) : Int).toNat = y := ⟨_, rfl⟩
  have b11 := hV0.get 100 ((4 * (a1 / 100)) : Int).toNat (lo := (-30)) (hi := 30) (t := 0) (by decide) (show _ < 40 by omega) ((pm_qe_r (tb := pm_qB) (k := 100) (i := ((4 * (a1 / 100)) : Int).toNat) (m := 4) (r := 0) (l := [(-30, 30, 0), (-30, 30, 0), (0, 16, 0), (0, 3, 0)]) rfl rfl (by omega)).trans rfl)
  rw [e10] at b11
  refine pm_iaload (len := 40) (v := y9) hC 100 rfl rfl (by decide) ⟨by omega, by omega⟩ (by decide) e10 dX12_works_41 ?_
  refine pm_iadd hC dX12_works_42 ?_
  refine pm_aload_n hC 1 (by decide) dX12_works_43 rfl ?_
  refine pm_getf (v := 98) hC 90 fl_X12_34 rfl rfl (by decide) rfl e4 dX12_works_44 ?_
  refine pm_iconst (v := 1) hC dX12_works_47 ?_
  obtain ⟨y12, e13⟩ : ∃ y, V0 98 (1 : Int).toNat = y := ⟨_, rfl⟩
  have b14 := hV0.get 98 (1 : Int).toNat (lo := 0) (hi := 9) (t := 0) (by decide) (show _ < 4 by omega) rfl
  rw [e13] at b14
  refine pm_iaload (len := 4) (v := y12) hC 98 rfl rfl (by decide) ⟨by decide, by decide⟩ (by decide) e13 dX12_works_48 ?_
  refine pm_iload_n hC 3 dX12_works_49 rfl ?_
  refine pm_bipush (v := 10) hC dX12_works_50 (by decide) ?_
  refine pm_idiv hC ⟨by omega, by omega, by omega⟩ ⟨by decide, by decide, by decide⟩ dX12_works_52 ?_
  refine pm_imul hC dX12_works_53 ?_
  have b16 : 0 ≤ (y12 * (a2 / 10)) ∧ (y12 * (a2 / 10)) ≤ 81 := pm_mulb (by omega) (by omega) (show y12 ≤ 9 by omega) (show (a2 / 10) ≤ 9 by omega) (by decide)
  generalize (y12 * (a2 / 10)) = y15 at b16 ⊢
  refine pm_iadd hC dX12_works_54 ?_
  refine pm_mmax hC 7047 4012 1018 4013 ⟨by decide, by decide⟩ ⟨by omega, by omega⟩ (by decide) wL_X12_311 wS_mmax wI_math wC_mmax (Nat.le_of_ble_eq_true rfl) dX12_works_55 (fun y17 b18 => ?_)
  replace b18 : 1 ≤ y17 ∧ y17 ≤ 171 ∧ 1 ≤ y17 ∧ ((y5 + y9) + y15) ≤ y17 := ⟨by omega, by omega, b18.1, b18.2.1⟩
  refine pm_putf hC 90 fl_X12_317 rfl rfl rfl (by decide) rfl trivial dX12_works_58 ?_
  refine pm_aload_n hC 1 (by decide) dX12_works_61 rfl ?_
  refine pm_iconst (v := 1) hC dX12_works_62 ?_
  refine pm_aload_n hC 1 (by decide) dX12_works_63 rfl ?_
  refine pm_getf (v := 98) hC 90 fl_X12_34 rfl rfl (by decide) rfl e4 dX12_works_64 ?_
  refine pm_iconst (v := 2) hC dX12_works_67 ?_
  obtain ⟨y19, e20⟩ : ∃ y, V0 98 (2 : Int).toNat = y := ⟨_, rfl⟩
  have b21 := hV0.get 98 (2 : Int).toNat (lo := 1) (hi := 60) (t := 0) (by decide) (show _ < 4 by omega) rfl
  rw [e20] at b21
  refine pm_iaload (len := 4) (v := y19) hC 98 rfl rfl (by decide) ⟨by decide, by decide⟩ (by decide) e20 dX12_works_68 ?_
  refine pm_aload_n hC 1 (by decide) dX12_works_69 rfl ?_
  refine pm_getf (v := 100) hC 90 fl_X12_40 rfl rfl (by decide) rfl e8 dX12_works_70 ?_
  refine pm_iload hC 0 dX12_works_73 rfl ?_
  refine pm_iconst (v := 1) hC dX12_works_75 ?_
  refine pm_iadd hC dX12_works_76 ?_
  obtain ⟨y22, e23⟩ : ∃ y, V0 100 (((4 * (a1 / 100)) + 1) : Int).toNat = y := ⟨_, rfl⟩
  have b24 := hV0.get 100 (((4 * (a1 / 100)) + 1) : Int).toNat (lo := (-30)) (hi := 30) (t := 0) (by decide) (show _ < 40 by omega) ((pm_qe_r (tb := pm_qB) (k := 100) (i := (((4 * (a1 / 100)) + 1) : Int).toNat) (m := 4) (r := 1) (l := [(-30, 30, 0), (-30, 30, 0), (0, 16, 0), (0, 3, 0)]) rfl rfl (by omega)).trans rfl)
  rw [e23] at b24
  refine pm_iaload (len := 40) (v := y22) hC 100 rfl rfl (by decide) ⟨by omega, by omega⟩ (by decide) e23 dX12_works_77 ?_
  refine pm_iadd hC dX12_works_78 ?_
  refine pm_aload_n hC 1 (by decide) dX12_works_79 rfl ?_
  refine pm_getf (v := 98) hC 90 fl_X12_34 rfl rfl (by decide) rfl e4 dX12_works_80 ?_
  refine pm_iconst (v := 3) hC dX12_works_83 ?_
  obtain ⟨y25, e26⟩ : ∃ y, V0 98 (3 : Int).toNat = y := ⟨_, rfl⟩
  have b27 := hV0.get 98 (3 : Int).toNat (lo := 0) (hi := 9) (t := 0) (by decide) (show _ < 4 by omega) rfl
  rw [e26] at b27
  refine pm_iaload (len := 4) (v := y25) hC 98 rfl rfl (by decide) ⟨by decide, by decide⟩ (by decide) e26 dX12_works_84 ?_
  refine pm_iload_n hC 3 dX12_works_85 rfl ?_
  refine pm_bipush (v := 10) hC dX12_works_86 (by decide) ?_
  refine pm_irem hC ⟨by omega, by omega, by omega⟩ ⟨by decide, by decide, by decide⟩ dX12_works_88 ?_
  refine pm_imul hC dX12_works_89 ?_
  have b29 : 0 ≤ (y25 * (a2 % 10)) ∧ (y25 * (a2 % 10)) ≤ 81 := pm_mulb (by omega) (by omega) (show y25 ≤ 9 by omega) (show (a2 % 10) ≤ 9 by omega) (by decide)
  generalize (y25 * (a2 % 10)) = y28 at b29 ⊢
  refine pm_iadd hC dX12_works_90 ?_
  refine pm_mmax hC 7047 4012 1018 4013 ⟨by decide, by decide⟩ ⟨by omega, by omega⟩ (by decide) wL_X12_311 wS_mmax wI_math wC_mmax (Nat.le_of_ble_eq_true rfl) dX12_works_91 (fun y30 b31 => ?_)
  replace b31 : 1 ≤ y30 ∧ y30 ≤ 171 ∧ 1 ≤ y30 ∧ ((y19 + y22) + y28) ≤ y30 := ⟨by omega, by omega, b31.1, b31.2.1⟩
  refine pm_putf hC 90 fl_X12_320 rfl rfl rfl (by decide) rfl trivial dX12_works_94 ?_
  refine pm_iconst (v := 1) hC dX12_works_97 ?_
  refine pm_aload_n hC 1 (by decide) dX12_works_98 rfl ?_
  obtain ⟨y32, e33⟩ : ∃ y, V0 90 20 = y := ⟨_, rfl⟩
  have b34 := hV0.get 90 20 (lo := 1) (hi := 99) (by decide) (by decide) rfl
  rw [e33] at b34
  refine pm_getf (v := y32) hC 90 fl_X12_229 rfl rfl (by decide) rfl e33 dX12_works_99 ?_
  refine pm_iconst (v := 2) hC dX12_works_102 ?_
  refine pm_idiv hC ⟨by omega, by omega, by omega⟩ ⟨by decide, by decide, by decide⟩ dX12_works_103 ?_
  refine pm_mmax hC 7047 4012 1018 4013 ⟨by decide, by decide⟩ ⟨by omega, by omega⟩ (by decide) wL_X12_311 wS_mmax wI_math wC_mmax (Nat.le_of_ble_eq_true rfl) dX12_works_104 (fun y35 b36 => ?_)
  replace b36 : 1 ≤ y35 ∧ y35 ≤ 49 ∧ 1 ≤ y35 ∧ (y32 / 2) ≤ y35 := ⟨by omega, by omega, b36.1, b36.2.1⟩
  refine pm_istore (lv' := [(5, (0, y35)), (4, (0, (4 * (a1 / 100)))), (0, (3, 90)), (1, (0, a1)), (2, (0, a2)), (3, (0, a3))]) hC dX12_works_107 (by decide) rfl ?_
  refine pm_aload_n hC 2 (by decide) dX12_works_109 rfl ?_
  refine pm_iconst (v := 0) hC dX12_works_110 ?_
  refine pm_aload_n hC 2 (by decide) dX12_works_111 rfl ?_
  refine pm_getf (v := 100) hC 90 fl_X12_40 rfl rfl (by decide) rfl e8 dX12_works_112 ?_
  refine pm_iload hC 1 dX12_works_115 rfl ?_
  refine pm_iconst (v := 2) hC dX12_works_117 ?_
  refine pm_iadd hC dX12_works_118 ?_
  obtain ⟨y37, e38⟩ : ∃ y, V0 100 (((4 * (a1 / 100)) + 2) : Int).toNat = y := ⟨_, rfl⟩
  have b39 := hV0.get 100 (((4 * (a1 / 100)) + 2) : Int).toNat (lo := 0) (hi := 16) (t := 0) (by decide) (show _ < 40 by omega) ((pm_qe_r (tb := pm_qB) (k := 100) (i := (((4 * (a1 / 100)) + 2) : Int).toNat) (m := 4) (r := 2) (l := [(-30, 30, 0), (-30, 30, 0), (0, 16, 0), (0, 3, 0)]) rfl rfl (by omega)).trans rfl)
  rw [e38] at b39
  refine pm_iaload (len := 40) (v := y37) hC 100 rfl rfl (by decide) ⟨by omega, by omega⟩ (by decide) e38 dX12_works_119 ?_
  refine pm_iload_n hC 5 dX12_works_120 rfl ?_
  refine pm_if_lt (tgt := 133) hC ⟨by omega, by omega⟩ dX12_works_121 (by decide) (fun c40 => ?_) (fun c40 => ?_)
  · skip
    refine pm_iload_n hC 5 dX12_works_133 rfl ?_
    refine pm_ineg hC dX12_works_134 ?_
    refine pm_iload hC 0 dX12_works_135 rfl ?_
    refine pm_idiv hC ⟨by omega, by omega, by omega⟩ ⟨by omega, by omega, by omega⟩ dX12_works_137 ?_
    have b42 := pm_divb (x := (-a3)) (y := y35) (by omega) (by omega)
    generalize ((-a3) / y35) = y41 at b42 ⊢
    refine pm_isub hC dX12_works_138 ?_
    refine pm_mmax hC 7047 4012 1018 4013 ⟨by decide, by decide⟩ ⟨by omega, by omega⟩ (by decide) wL_X12_311 wS_mmax wI_math wC_mmax (Nat.le_of_ble_eq_true rfl) dX12_works_139 (fun y43 b44 => ?_)
    replace b44 : 0 ≤ y43 ∧ y43 ≤ 16 ∧ 0 ≤ y43 ∧ (y37 - y41) ≤ y43 := ⟨by omega, by omega, b44.1, b44.2.1⟩
    refine pm_putf hC 90 fl_X12_323 rfl rfl rfl (by decide) rfl trivial dX12_works_142 ?_
    refine pm_aload_n hC 2 (by decide) dX12_works_145 rfl ?_
    refine pm_lconst (x := 0) hC dX12_works_146 rfl ?_
    refine pm_putf hC 90 fl_X12_326 rfl rfl rfl (by decide) rfl trivial dX12_works_147 ?_
    refine pm_aload_n hC 2 (by decide) dX12_works_150 rfl ?_
    refine pm_lconst (x := 0) hC dX12_works_151 rfl ?_
    refine pm_putf hC 90 fl_X12_329 rfl rfl rfl (by decide) rfl trivial dX12_works_152 ?_
    refine pm_aload_n hC 2 (by decide) dX12_works_155 rfl ?_
    refine pm_lconst (x := 0) hC dX12_works_156 rfl ?_
    refine pm_putf hC 90 fl_X12_332 rfl rfl rfl (by decide) rfl trivial dX12_works_157 ?_
    refine pm_iconst (v := 0) hC dX12_works_160 ?_
    refine pm_istore (lv' := [(6, (0, 0)), (5, (0, y35)), (4, (0, (4 * (a1 / 100)))), (0, (3, 90)), (1, (0, a1)), (2, (0, a2)), (3, (0, a3))]) hC dX12_works_161 (by decide) rfl ?_
    have hV47 := ((((((((hV0.put 90 48 (x := ((a1 / 10) % 10)) (lo := 0) (hi := 8) rfl ⟨by omega, by omega⟩).put 90 49 (x := (a1 % 10)) (lo := 0) (hi := 8) rfl ⟨by omega, by omega⟩).put 90 42 (x := y17) (lo := 0) (hi := 171) rfl ⟨by omega, by omega⟩).put 90 43 (x := y30) (lo := 0) (hi := 171) rfl ⟨by omega, by omega⟩).put 90 47 (x := y43) (lo := 0) (hi := 16) rfl ⟨by omega, by omega⟩).put 90 44 (x := 0) (lo := 0) (hi := 13851) rfl ⟨by decide, by decide⟩).put 90 45 (x := 0) (lo := 0) (hi := 1539) rfl ⟨by decide, by decide⟩).put 90 46 (x := 0) (lo := 0) (hi := 2368521) rfl ⟨by decide, by decide⟩)
    have hF48 := (((((((((pm_fs.rf (cs := [110, 111]) (fs := [42, 43, 44, 45, 46, 47, 48, 49]) (V := V0)).upf 48 ((a1 / 10) % 10) rfl).upf 49 (a1 % 10) rfl).upf 42 y17 rfl).upf 43 y30 rfl).upf 47 y43 rfl).upf 44 0 rfl).upf 45 0 rfl).upf 46 0 rfl)
    obtain ⟨V45, hv46⟩ : ∃ V, V = (pm_up (pm_up (pm_up (pm_up (pm_up (pm_up (pm_up (pm_up V0 90 48 ((a1 / 10) % 10)) 90 49 (a1 % 10)) 90 42 y17) 90 43 y30) 90 47 y43) 90 44 0) 90 45 0) 90 46 0) := ⟨_, rfl⟩
    rw [← hv46] at hV47 hF48
    rw [← hv46]
    have e49 : V45 90 16 = y1 := by rw [hv46]; exact e2
    have e50 : V45 90 18 = 98 := by rw [hv46]; exact e4
    have e51 : V45 90 24 = 100 := by rw [hv46]; exact e8
    have e52 : V45 90 20 = y32 := by rw [hv46]; exact e33
    have e53 : V45 90 48 = ((a1 / 10) % 10) := by rw [hv46]; rfl
    have e54 : V45 90 49 = (a1 % 10) := by rw [hv46]; rfl
    have e55 : V45 90 42 = y17 := by rw [hv46]; rfl
    have e56 : V45 90 43 = y30 := by rw [hv46]; rfl
    have e57 : V45 90 47 = y43 := by rw [hv46]; rfl
    have e58 : V45 90 44 = 0 := by rw [hv46]; rfl
    have e59 : V45 90 45 = 0 := by rw [hv46]; rfl
    have e60 : V45 90 46 = 0 := by rw [hv46]; rfl
    have hp61 : pm_h1 V45 := by rw [hv46]; exact (pm_h1.fr hn_pm_h1 rfl rfl)
    have L83 : ∀ (N85 : Nat) (x62 : Int) (V64 : pm_M), (0 ≤ x62 ∧ x62 ≤ 9) → pm_oq pm_qB V64 → pm_fs [110, 111] [42, 43, 44, 45, 46, 47, 48, 49] V0 V64 → V64 90 16 = y1 → V64 90 18 = 98 → V64 90 24 = 100 → V64 90 20 = y32 → V64 90 48 = ((a1 / 10) % 10) → V64 90 49 = (a1 % 10) → V64 90 42 = y17 → V64 90 43 = y30 → V64 90 47 = y43 → pm_h1 V64 → (V64 90 44 ≤ 1539 * x62) → (V64 90 45 ≤ 171 * x62) → (V64 90 46 ≤ 263169 * x62) → (((a1 / 10) % 10) < x62 → 1 ≤ V64 110 (((a1 / 10) % 10)).toNat) → ((a1 % 10) < x62 → 1 ≤ V64 111 ((a1 % 10)).toNat) → (1 ≤ V64 90 46 → ∃ q : Nat, (q : Int) < x62 ∧ 1 ≤ V64 110 q ∧ 1 ≤ V64 111 q) → (Int.toNat (9 - x62)) = N85 → pm_J X 163 [(0, (3, 90)), (1, (0, a1)), (2, (0, a2)), (3, (0, a3)), (4, (0, (4 * (a1 / 100)))), (5, (0, y35)), (6, (0, x62))] [] 118 V64 := by
      intro N85
      induction N85 using Nat.strongRecOn with
      | _ N85 ih86 =>
      intro x62 V64 b63 hV65 hF66 e67 e68 e69 e70 e71 e72 e73 e74 e75 hp76 hm77 hm78 hm79 hx80 hx81 hx82 hm84
      refine pm_iload hC 6 dX12_works_163 rfl ?_
      refine pm_aload_n hC 0 (by decide) dX12_works_165 rfl ?_
      refine pm_getf (v := y1) hC 90 fl_X12_220 rfl rfl (by decide) rfl e67 dX12_works_166 ?_
      refine pm_icmp_ge (tgt := 337) hC ⟨by omega, by omega⟩ ⟨by omega, by omega⟩ dX12_works_169 (by decide) (fun c87 => ?_) (fun c87 => ?_)
      · skip
        have q88 : 1 ≤ V64 90 42 ∧ V64 90 42 ≤ 171 := by (have e : V64 90 42 = y17 := e73); rw [e]; exact ⟨by omega, by omega⟩
        have q89 : 1 ≤ V64 90 43 ∧ V64 90 43 ≤ 171 := by (have e : V64 90 43 = y30 := e74); rw [e]; exact ⟨by omega, by omega⟩
        exact pm_vret hC hR ⟨rfl, hV65, hF66, q88, q89, (by unfold pm_w1; rw [e71, e72, e67]; exact ⟨by omega, by omega, by omega, by omega, hx80 (by omega), hx81 (by omega)⟩), (by unfold pm_w3; rw [e67]; intro h; obtain ⟨q, q1, q2, q3⟩ := hx82 h; exact ⟨q, by omega, q2, q3⟩)⟩ dX12_works_337
      · skip
        refine pm_aload_n hC 0 (by decide) dX12_works_172 rfl ?_
        have e90 : V64 90 40 = 110 := hV65.one 90 40 (by decide) (by decide) rfl
        refine pm_getf (v := 110) hC 90 fl_X12_70 rfl rfl (by decide) rfl e90 dX12_works_173 ?_
        refine pm_iload hC 6 dX12_works_176 rfl ?_
        refine pm_iconst (v := 0) hC dX12_works_178 ?_
        refine pm_aload_n hC 0 (by decide) dX12_works_179 rfl ?_
        have e91 : V64 90 17 = 97 := hV65.one 90 17 (by decide) (by decide) rfl
        refine pm_getf (v := 97) hC 90 fl_X12_31 rfl rfl (by decide) rfl e91 dX12_works_180 ?_
        refine pm_iconst (v := 3) hC dX12_works_183 ?_
        refine pm_iload hC 6 dX12_works_184 rfl ?_
        refine pm_imul hC dX12_works_186 ?_
        refine pm_iconst (v := 2) hC dX12_works_187 ?_
        refine pm_iadd hC dX12_works_188 ?_
        obtain ⟨y92, e93⟩ : ∃ y, V64 97 (((3 * x62) + 2) : Int).toNat = y := ⟨_, rfl⟩
        have b94 := hV65.get 97 (((3 * x62) + 2) : Int).toNat (lo := 0) (hi := 9) (t := 0) (by decide) (show _ < 27 by omega) ((pm_qe_r (tb := pm_qB) (k := 97) (i := (((3 * x62) + 2) : Int).toNat) (m := 3) (r := 2) (l := [(0, 99, 0), (0, 99, 0), (0, 9, 0)]) rfl rfl (by omega)).trans rfl)
        rw [e93] at b94
        refine pm_iaload (len := 27) (v := y92) hC 97 rfl rfl (by decide) ⟨by omega, by omega⟩ (by decide) e93 dX12_works_189 ?_
        refine pm_aload_n hC 0 (by decide) dX12_works_190 rfl ?_
        refine pm_getf (v := y17) hC 90 fl_X12_317 rfl rfl (by decide) rfl e73 dX12_works_191 ?_
        refine pm_aload_n hC 0 (by decide) dX12_works_194 rfl ?_
        refine pm_iload hC 6 dX12_works_195 rfl ?_
        refine pm_callV (ci := 12) (as := [(0, x62)]) (st := [(0, y17), (0, y92), (0, 0), (0, x62), (3, 110)]) hC 90 (B_X12_x x62 ⟨by omega, by omega⟩) lm_X12_335 li_X12_x (by decide) (by decide) rfl rfl rfl (by decide) rfl rfl (Nat.le_of_ble_eq_true rfl) ⟨Nat.le_refl _, Or.inl rfl⟩ dX12_works_197 ⟨rfl, hV65⟩ (fun r95 V96 hp97 => ?_)
        obtain ⟨y98, rfl, b99, rfl⟩ := hp97
        change pm_J X 200 [(0, (3, 90)), (1, (0, a1)), (2, (0, a2)), (3, (0, a3)), (4, (0, (4 * (a1 / 100)))), (5, (0, y35)), (6, (0, x62))] [(0, y98), (0, y17), (0, y92), (0, 0), (0, x62), (3, 110)] 118 V64
        refine pm_aload_n hC 0 (by decide) dX12_works_200 rfl ?_
        refine pm_aload_n hC 0 (by decide) dX12_works_201 rfl ?_
        refine pm_getf (v := ((a1 / 10) % 10)) hC 90 fl_X12_305 rfl rfl (by decide) rfl e71 dX12_works_202 ?_
        refine pm_callV (ci := 12) (as := [(0, ((a1 / 10) % 10))]) (st := [(0, y98), (0, y17), (0, y92), (0, 0), (0, x62), (3, 110)]) hC 90 (B_X12_x ((a1 / 10) % 10) ⟨by omega, by omega⟩) lm_X12_335 li_X12_x (by decide) (by decide) rfl rfl rfl (by decide) rfl rfl (Nat.le_of_ble_eq_true rfl) ⟨Nat.le_refl _, Or.inl rfl⟩ dX12_works_205 ⟨rfl, hV65⟩ (fun r100 V101 hp102 => ?_)
        obtain ⟨y103, rfl, b104, rfl⟩ := hp102
        change pm_J X 208 [(0, (3, 90)), (1, (0, a1)), (2, (0, a2)), (3, (0, a3)), (4, (0, (4 * (a1 / 100)))), (5, (0, y35)), (6, (0, x62))] [(0, y103), (0, y98), (0, y17), (0, y92), (0, 0), (0, x62), (3, 110)] 118 V64
        refine pm_isub hC dX12_works_208 ?_
        refine pm_callS (as := [(0, (y98 - y103))]) (st := [(0, y17), (0, y92), (0, 0), (0, x62), (3, 110)]) hC (B_X12_far (y98 - y103) ⟨by omega, by omega⟩) lm_X12_338 ls_X12_far (by decide) (by decide) rfl rfl (Nat.le_of_ble_eq_true rfl) ⟨Nat.le_refl _, Or.inl rfl⟩ dX12_works_209 ⟨rfl, hV65⟩ (fun r105 V106 hp107 => ?_)
        obtain ⟨y108, rfl, b109, rfl⟩ := hp107
        change pm_J X 212 [(0, (3, 90)), (1, (0, a1)), (2, (0, a2)), (3, (0, a3)), (4, (0, (4 * (a1 / 100)))), (5, (0, y35)), (6, (0, x62))] [(0, y108), (0, y17), (0, y92), (0, 0), (0, x62), (3, 110)] 118 V64
        refine pm_isub hC dX12_works_212 ?_
        refine pm_aload_n hC 0 (by decide) dX12_works_213 rfl ?_
        refine pm_iload hC 6 dX12_works_214 rfl ?_
        refine pm_callV (ci := 12) (as := [(0, x62)]) (st := [(0, (y17 - y108)), (0, y92), (0, 0), (0, x62), (3, 110)]) hC 90 (B_X12_y x62 ⟨by omega, by omega⟩) lm_X12_341 li_X12_y (by decide) (by decide) rfl rfl rfl (by decide) rfl rfl (Nat.le_of_ble_eq_true rfl) ⟨Nat.le_refl _, Or.inl rfl⟩ dX12_works_216 ⟨rfl, hV65⟩ (fun r110 V111 hp112 => ?_)
        obtain ⟨y113, rfl, b114, rfl⟩ := hp112
        change pm_J X 219 [(0, (3, 90)), (1, (0, a1)), (2, (0, a2)), (3, (0, a3)), (4, (0, (4 * (a1 / 100)))), (5, (0, y35)), (6, (0, x62))] [(0, y113), (0, (y17 - y108)), (0, y92), (0, 0), (0, x62), (3, 110)] 118 V64
        refine pm_aload_n hC 0 (by decide) dX12_works_219 rfl ?_
        refine pm_aload_n hC 0 (by decide) dX12_works_220 rfl ?_
        refine pm_getf (v := ((a1 / 10) % 10)) hC 90 fl_X12_305 rfl rfl (by decide) rfl e71 dX12_works_221 ?_
        refine pm_callV (ci := 12) (as := [(0, ((a1 / 10) % 10))]) (st := [(0, y113), (0, (y17 - y108)), (0, y92), (0, 0), (0, x62), (3, 110)]) hC 90 (B_X12_y ((a1 / 10) % 10) ⟨by omega, by omega⟩) lm_X12_341 li_X12_y (by decide) (by decide) rfl rfl rfl (by decide) rfl rfl (Nat.le_of_ble_eq_true rfl) ⟨Nat.le_refl _, Or.inl rfl⟩ dX12_works_224 ⟨rfl, hV65⟩ (fun r115 V116 hp117 => ?_)
        obtain ⟨y118, rfl, b119, rfl⟩ := hp117
        change pm_J X 227 [(0, (3, 90)), (1, (0, a1)), (2, (0, a2)), (3, (0, a3)), (4, (0, (4 * (a1 / 100)))), (5, (0, y35)), (6, (0, x62))] [(0, y118), (0, y113), (0, (y17 - y108)), (0, y92), (0, 0), (0, x62), (3, 110)] 118 V64
        refine pm_isub hC dX12_works_227 ?_
        refine pm_callS (as := [(0, (y113 - y118))]) (st := [(0, (y17 - y108)), (0, y92), (0, 0), (0, x62), (3, 110)]) hC (B_X12_far (y113 - y118) ⟨by omega, by omega⟩) lm_X12_338 ls_X12_far (by decide) (by decide) rfl rfl (Nat.le_of_ble_eq_true rfl) ⟨Nat.le_refl _, Or.inl rfl⟩ dX12_works_228 ⟨rfl, hV65⟩ (fun r120 V121 hp122 => ?_)
        obtain ⟨y123, rfl, b124, rfl⟩ := hp122
        change pm_J X 231 [(0, (3, 90)), (1, (0, a1)), (2, (0, a2)), (3, (0, a3)), (4, (0, (4 * (a1 / 100)))), (5, (0, y35)), (6, (0, x62))] [(0, y123), (0, (y17 - y108)), (0, y92), (0, 0), (0, x62), (3, 110)] 118 V64
        refine pm_isub hC dX12_works_231 ?_
        refine pm_imul hC dX12_works_232 ?_
        have b126 : (-1773) ≤ (y92 * ((y17 - y108) - y123)) ∧ (y92 * ((y17 - y108) - y123)) ≤ 1539 := pm_mulg (a := 0) (b := 9) (c := (-197)) (d := 171) ⟨by omega, by omega⟩ ⟨by omega, by omega⟩ (by decide) (by decide)
        generalize hey125 : (y92 * ((y17 - y108) - y123)) = y125 at b126 ⊢
        refine pm_mmax hC 7047 4012 1018 4013 ⟨by decide, by decide⟩ ⟨by omega, by omega⟩ (by decide) wL_X12_311 wS_mmax wI_math wC_mmax (Nat.le_of_ble_eq_true rfl) dX12_works_233 (fun y127 b128 => ?_)
        replace b128 : 0 ≤ y127 ∧ y127 ≤ 1539 ∧ 0 ≤ y127 ∧ y125 ≤ y127 := ⟨by omega, by omega, b128.1, b128.2.1⟩
        have hv129 : ((a1 / 10) % 10) = x62 → 1 ≤ y127 := by
          intro hq
          have q1 : V64 97 (3 * x62).toNat = V64 97 (3 * ((a1 / 10) % 10)).toNat := by rw [hq]
          have q2 : V64 97 (3 * x62 + 1).toNat = V64 97 (3 * ((a1 / 10) % 10) + 1).toNat := by rw [hq]
          have hh := hp76 x62 (by omega) (by omega)
          have hfz0 : y108 = 0 := pm_far0 b109 (by omega)
          have hfz1 : y123 = 0 := pm_far0 b124 (by omega)
          have hp : 1 ≤ y92 * ((y17 - y108) - y123) := pm_mul1 (by omega) (by omega)
          omega
        refine pm_iastore (len := 9) hC 110 rfl rfl (by decide) ⟨by omega, by omega⟩ (by decide) dX12_works_236 ?_
        refine pm_aload_n hC 0 (by decide) dX12_works_237 rfl ?_
        have e130 : V64 90 41 = 111 := hV65.one 90 41 (by decide) (by decide) rfl
        refine pm_getf (v := 111) hC 90 fl_X12_73 rfl rfl (by decide) rfl e130 dX12_works_238 ?_
        refine pm_iload hC 6 dX12_works_241 rfl ?_
        refine pm_iconst (v := 0) hC dX12_works_243 ?_
        refine pm_aload_n hC 0 (by decide) dX12_works_244 rfl ?_
        refine pm_getf (v := y30) hC 90 fl_X12_320 rfl rfl (by decide) rfl e74 dX12_works_245 ?_
        refine pm_aload_n hC 0 (by decide) dX12_works_248 rfl ?_
        refine pm_iload hC 6 dX12_works_249 rfl ?_
        refine pm_callV (ci := 12) (as := [(0, x62)]) (st := [(0, y30), (0, 0), (0, x62), (3, 111)]) hC 90 (B_X12_x x62 ⟨by omega, by omega⟩) lm_X12_335 li_X12_x (by decide) (by decide) rfl rfl rfl (by decide) rfl rfl (Nat.le_of_ble_eq_true rfl) ⟨Nat.le_refl _, Or.inl rfl⟩ dX12_works_251 ⟨rfl, (hV65.put 110 (x62 : Int).toNat (x := y127) (lo := 0) (hi := 1539) rfl ⟨by omega, by omega⟩)⟩ (fun r131 V132 hp133 => ?_)
        obtain ⟨y134, rfl, b135, rfl⟩ := hp133
        change pm_J X 254 [(0, (3, 90)), (1, (0, a1)), (2, (0, a2)), (3, (0, a3)), (4, (0, (4 * (a1 / 100)))), (5, (0, y35)), (6, (0, x62))] [(0, y134), (0, y30), (0, 0), (0, x62), (3, 111)] 118 (pm_up V64 110 (x62 : Int).toNat y127)
        refine pm_aload_n hC 0 (by decide) dX12_works_254 rfl ?_
        refine pm_aload_n hC 0 (by decide) dX12_works_255 rfl ?_
        refine pm_getf (v := (a1 % 10)) hC 90 fl_X12_308 rfl rfl (by decide) rfl e72 dX12_works_256 ?_
        refine pm_callV (ci := 12) (as := [(0, (a1 % 10))]) (st := [(0, y134), (0, y30), (0, 0), (0, x62), (3, 111)]) hC 90 (B_X12_x (a1 % 10) ⟨by omega, by omega⟩) lm_X12_335 li_X12_x (by decide) (by decide) rfl rfl rfl (by decide) rfl rfl (Nat.le_of_ble_eq_true rfl) ⟨Nat.le_refl _, Or.inl rfl⟩ dX12_works_259 ⟨rfl, (hV65.put 110 (x62 : Int).toNat (x := y127) (lo := 0) (hi := 1539) rfl ⟨by omega, by omega⟩)⟩ (fun r136 V137 hp138 => ?_)
        obtain ⟨y139, rfl, b140, rfl⟩ := hp138
        change pm_J X 262 [(0, (3, 90)), (1, (0, a1)), (2, (0, a2)), (3, (0, a3)), (4, (0, (4 * (a1 / 100)))), (5, (0, y35)), (6, (0, x62))] [(0, y139), (0, y134), (0, y30), (0, 0), (0, x62), (3, 111)] 118 (pm_up V64 110 (x62 : Int).toNat y127)
        refine pm_isub hC dX12_works_262 ?_
        refine pm_callS (as := [(0, (y134 - y139))]) (st := [(0, y30), (0, 0), (0, x62), (3, 111)]) hC (B_X12_far (y134 - y139) ⟨by omega, by omega⟩) lm_X12_338 ls_X12_far (by decide) (by decide) rfl rfl (Nat.le_of_ble_eq_true rfl) ⟨Nat.le_refl _, Or.inl rfl⟩ dX12_works_263 ⟨rfl, (hV65.put 110 (x62 : Int).toNat (x := y127) (lo := 0) (hi := 1539) rfl ⟨by omega, by omega⟩)⟩ (fun r141 V142 hp143 => ?_)
        obtain ⟨y144, rfl, b145, rfl⟩ := hp143
        change pm_J X 266 [(0, (3, 90)), (1, (0, a1)), (2, (0, a2)), (3, (0, a3)), (4, (0, (4 * (a1 / 100)))), (5, (0, y35)), (6, (0, x62))] [(0, y144), (0, y30), (0, 0), (0, x62), (3, 111)] 118 (pm_up V64 110 (x62 : Int).toNat y127)
        refine pm_isub hC dX12_works_266 ?_
        refine pm_mmax hC 7047 4012 1018 4013 ⟨by decide, by decide⟩ ⟨by omega, by omega⟩ (by decide) wL_X12_311 wS_mmax wI_math wC_mmax (Nat.le_of_ble_eq_true rfl) dX12_works_267 (fun y146 b147 => ?_)
        replace b147 : 0 ≤ y146 ∧ y146 ≤ 171 ∧ 0 ≤ y146 ∧ (y30 - y144) ≤ y146 := ⟨by omega, by omega, b147.1, b147.2.1⟩
        have hv148 : (a1 % 10) = x62 → 1 ≤ y146 := by
          intro hq
          have q1 : V64 97 (3 * x62).toNat = V64 97 (3 * (a1 % 10)).toNat := by rw [hq]
          have hfz0 : y144 = 0 := pm_far0 b145 (by omega)
          omega
        refine pm_iastore (len := 9) hC 111 rfl rfl (by decide) ⟨by omega, by omega⟩ (by decide) dX12_works_270 ?_
        refine pm_aload_n hC 0 (by decide) dX12_works_271 rfl ?_
        refine pm_dup hC rfl dX12_works_272 ?_
        obtain ⟨y149, e150⟩ : ∃ y, V64 90 44 = y := ⟨_, rfl⟩
        have b151 := hV65.get 90 44 (lo := 0) (hi := 13851) (by decide) (by decide) rfl
        rw [e150] at b151
        refine pm_getf (v := y149) hC 90 fl_X12_326 rfl rfl (by decide) rfl e150 dX12_works_273 ?_
        refine pm_aload_n hC 0 (by decide) dX12_works_276 rfl ?_
        refine pm_getf (v := 110) hC 90 fl_X12_70 rfl rfl (by decide) rfl e90 dX12_works_277 ?_
        refine pm_iload hC 6 dX12_works_280 rfl ?_
        have hV154 := ((hV65.put 110 (x62 : Int).toNat (x := y127) (lo := 0) (hi := 1539) rfl ⟨by omega, by omega⟩).put 111 (x62 : Int).toNat (x := y146) (lo := 0) (hi := 171) rfl ⟨by omega, by omega⟩)
        have hF155 := ((hF66.up 110 (x62 : Int).toNat y127 (by decide) rfl).up 111 (x62 : Int).toNat y146 (by decide) rfl)
        obtain ⟨V152, hv153⟩ : ∃ V, V = (pm_up (pm_up V64 110 (x62 : Int).toNat y127) 111 (x62 : Int).toNat y146) := ⟨_, rfl⟩
        rw [← hv153] at hV154 hF155
        rw [← hv153]
        have e156 : V152 90 16 = y1 := by rw [hv153]; exact e67
        have e157 : V152 90 18 = 98 := by rw [hv153]; exact e68
        have e158 : V152 90 24 = 100 := by rw [hv153]; exact e69
        have e159 : V152 90 20 = y32 := by rw [hv153]; exact e70
        have e160 : V152 90 48 = ((a1 / 10) % 10) := by rw [hv153]; exact e71
        have e161 : V152 90 49 = (a1 % 10) := by rw [hv153]; exact e72
        have e162 : V152 90 42 = y17 := by rw [hv153]; exact e73
        have e163 : V152 90 43 = y30 := by rw [hv153]; exact e74
        have e164 : V152 90 47 = y43 := by rw [hv153]; exact e75
        have e165 : V152 90 40 = 110 := by rw [hv153]; exact e90
        have e166 : V152 90 17 = 97 := by rw [hv153]; exact e91
        have e167 : V152 90 41 = 111 := by rw [hv153]; exact e130
        have e168 : V152 90 44 = y149 := by rw [hv153]; exact e150
        have hp169 : pm_h1 V152 := by rw [hv153]; exact (pm_h1.fr hp76 rfl rfl)
        obtain ⟨y170, e171⟩ : ∃ y, V152 110 (x62 : Int).toNat = y := ⟨_, rfl⟩
        have b172 := hV154.get 110 (x62 : Int).toNat (lo := 0) (hi := 1539) (t := 0) (by decide) (show _ < 9 by omega) rfl
        rw [e171] at b172
        refine pm_iaload (len := 9) (v := y170) hC 110 rfl rfl (by decide) ⟨by omega, by omega⟩ (by decide) e171 dX12_works_282 ?_
        refine pm_i2l hC ⟨by omega, by omega⟩ dX12_works_283 ?_
        refine pm_ladd hC dX12_works_284 ?_
        refine pm_putf hC 90 fl_X12_326 rfl rfl rfl (by decide) rfl trivial dX12_works_285 ?_
        refine pm_aload_n hC 0 (by decide) dX12_works_288 rfl ?_
        refine pm_dup hC rfl dX12_works_289 ?_
        obtain ⟨y173, e174⟩ : ∃ y, V152 90 45 = y := ⟨_, rfl⟩
        have b175 := hV154.get 90 45 (lo := 0) (hi := 1539) (by decide) (by decide) rfl
        rw [e174] at b175
        refine pm_getf (v := y173) hC 90 fl_X12_329 rfl rfl (by decide) rfl e174 dX12_works_290 ?_
        refine pm_aload_n hC 0 (by decide) dX12_works_293 rfl ?_
        refine pm_getf (v := 111) hC 90 fl_X12_73 rfl rfl (by decide) rfl e167 dX12_works_294 ?_
        refine pm_iload hC 6 dX12_works_297 rfl ?_
        obtain ⟨y176, e177⟩ : ∃ y, V152 111 (x62 : Int).toNat = y := ⟨_, rfl⟩
        have b178 := hV154.get 111 (x62 : Int).toNat (lo := 0) (hi := 171) (t := 0) (by decide) (show _ < 9 by omega) rfl
        rw [e177] at b178
        refine pm_iaload (len := 9) (v := y176) hC 111 rfl rfl (by decide) ⟨by omega, by omega⟩ (by decide) e177 dX12_works_299 ?_
        refine pm_i2l hC ⟨by omega, by omega⟩ dX12_works_300 ?_
        refine pm_ladd hC dX12_works_301 ?_
        refine pm_putf hC 90 fl_X12_329 rfl rfl rfl (by decide) rfl trivial dX12_works_302 ?_
        refine pm_aload_n hC 0 (by decide) dX12_works_305 rfl ?_
        refine pm_dup hC rfl dX12_works_306 ?_
        obtain ⟨y179, e180⟩ : ∃ y, V152 90 46 = y := ⟨_, rfl⟩
        have b181 := hV154.get 90 46 (lo := 0) (hi := 2368521) (by decide) (by decide) rfl
        rw [e180] at b181
        refine pm_getf (v := y179) hC 90 fl_X12_332 rfl rfl (by decide) rfl e180 dX12_works_307 ?_
        refine pm_aload_n hC 0 (by decide) dX12_works_310 rfl ?_
        refine pm_getf (v := 110) hC 90 fl_X12_70 rfl rfl (by decide) rfl e165 dX12_works_311 ?_
        refine pm_iload hC 6 dX12_works_314 rfl ?_
        refine pm_iaload (len := 9) (v := y170) hC 110 rfl rfl (by decide) ⟨by omega, by omega⟩ (by decide) e171 dX12_works_316 ?_
        refine pm_i2l hC ⟨by omega, by omega⟩ dX12_works_317 ?_
        refine pm_aload_n hC 0 (by decide) dX12_works_318 rfl ?_
        refine pm_getf (v := 111) hC 90 fl_X12_73 rfl rfl (by decide) rfl e167 dX12_works_319 ?_
        refine pm_iload hC 6 dX12_works_322 rfl ?_
        refine pm_iaload (len := 9) (v := y176) hC 111 rfl rfl (by decide) ⟨by omega, by omega⟩ (by decide) e177 dX12_works_324 ?_
        refine pm_i2l hC ⟨by omega, by omega⟩ dX12_works_325 ?_
        refine pm_lmul hC dX12_works_326 ?_
        have b183 : 0 ≤ (y170 * y176) ∧ (y170 * y176) ≤ 263169 := pm_mulb (by omega) (by omega) (show y170 ≤ 1539 by omega) (show y176 ≤ 171 by omega) (by decide)
        generalize hey182 : (y170 * y176) = y182 at b183 ⊢
        refine pm_ladd hC dX12_works_327 ?_
        refine pm_putf hC 90 fl_X12_332 rfl rfl rfl (by decide) rfl trivial dX12_works_328 ?_
        obtain ⟨x184, ei185⟩ : ∃ y : Int, x62 + 1 = y := ⟨_, rfl⟩
        refine pm_iinc (y := x184) (lv' := [(6, (0, x184)), (0, (3, 90)), (1, (0, a1)), (2, (0, a2)), (3, (0, a3)), (4, (0, (4 * (a1 / 100)))), (5, (0, y35))]) hC 6 dX12_works_331 (by decide) rfl ei185 rfl ?_
        refine pm_goto (tgt := 163) hC dX12_works_334 (by decide) ?_
        refine pm_lvsub [1, 2, 3, 4, 5, 6, 0] (lv' := [(0, (3, 90)), (1, (0, a1)), (2, (0, a2)), (3, (0, a3)), (4, (0, (4 * (a1 / 100)))), (5, (0, y35)), (6, (0, x184))]) rfl ?_
        exact ih86 _ (by omega) x184 (pm_up (pm_up (pm_up V152 90 44 (y149 + y170)) 90 45 (y173 + y176)) 90 46 (y179 + y182)) ⟨by omega, by omega⟩ (((hV154.put 90 44 (x := (y149 + y170)) (lo := 0) (hi := 13851) rfl ⟨by omega, by omega⟩).put 90 45 (x := (y173 + y176)) (lo := 0) (hi := 1539) rfl ⟨by omega, by omega⟩).put 90 46 (x := (y179 + y182)) (lo := 0) (hi := 2368521) rfl ⟨by omega, by omega⟩) (((hF155.upf 44 (y149 + y170) rfl).upf 45 (y173 + y176) rfl).upf 46 (y179 + y182) rfl) e156 e157 e158 e159 e160 e161 e162 e163 e164 (pm_h1.fr hp169 rfl rfl) (show (y149 + y170) ≤ 1539 * x184 by omega) (show (y173 + y176) ≤ 171 * x184 by omega) (show (y179 + y182) ≤ 263169 * x184 by omega) (fun h => by show 1 ≤ V152 110 (((a1 / 10) % 10)).toNat; rw [hv153]; exact pm_up_get (V := V64) (k := 110) (i := x62) (a := ((a1 / 10) % 10)) (x := y127) (p := fun z => 1 ≤ z) (by omega) (by omega) hv129 (fun hne => hx80 (by omega))) (fun h => by show 1 ≤ V152 111 ((a1 % 10)).toNat; rw [hv153]; exact pm_up_get (V := V64) (k := 111) (i := x62) (a := (a1 % 10)) (x := y146) (p := fun z => 1 ≤ z) (by omega) (by omega) hv148 (fun hne => hx81 (by omega))) (fun h => by have h9 : 1 ≤ (y179 + y182) := h; (by_cases hy : 1 ≤ y182); (have hm : y170 * y176 = y182 := hey182; obtain ⟨m1, m2⟩ := pm_mulpos (x := y170) (y := y176) (by omega) (by omega) (by rw [hm]; exact hy); exact ⟨((x62) : Int).toNat, by omega, by (show 1 ≤ V152 110 ((x62) : Int).toNat; rw [e171]; exact m1), by (show 1 ≤ V152 111 ((x62) : Int).toNat; rw [e177]; exact m2)⟩); (obtain ⟨q, q1, q2, q3⟩ := hx82 (by (have h46 : V64 90 46 = V152 90 46 := by rw [hv153]; rfl); rw [h46, e180]; omega); exact ⟨q, by omega, by (show 1 ≤ V152 110 q; rw [hv153, pm_up_c (by decide), pm_up_i (by omega)]; exact q2), by (show 1 ≤ V152 111 q; rw [hv153, pm_up_i (by omega), pm_up_c (by decide)]; exact q3)⟩)) rfl
    refine pm_lvsub [3, 4, 5, 6, 2, 1, 0] (lv' := [(0, (3, 90)), (1, (0, a1)), (2, (0, a2)), (3, (0, a3)), (4, (0, (4 * (a1 / 100)))), (5, (0, y35)), (6, (0, 0))]) rfl ?_
    exact L83 _ 0 V45 ⟨by decide, by decide⟩ hV47 hF48 e49 e50 e51 e52 e53 e54 e55 e56 e57 hp61 (by (have e : V45 90 44 = 0 := e58); rw [e]; omega) (by (have e : V45 90 45 = 0 := e59); rw [e]; omega) (by (have e : V45 90 46 = 0 := e60); rw [e]; omega) (fun h => absurd h (by omega)) (fun h => absurd h (by omega)) (fun h => absurd h (by rw [e60]; decide)) rfl
  · skip
    refine pm_iload_n hC 5 dX12_works_124 rfl ?_
    refine pm_aload_n hC 2 (by decide) dX12_works_125 rfl ?_
    refine pm_getf (v := y32) hC 90 fl_X12_229 rfl rfl (by decide) rfl e33 dX12_works_126 ?_
    refine pm_idiv hC ⟨by omega, by omega, by omega⟩ ⟨by omega, by omega, by omega⟩ dX12_works_129 ?_
    have b187 := pm_divb (x := a3) (y := y32) (by omega) (by omega)
    generalize (a3 / y32) = y186 at b187 ⊢
    refine pm_goto (tgt := 138) hC dX12_works_130 (by decide) ?_
    refine pm_isub hC dX12_works_138 ?_
    refine pm_mmax hC 7047 4012 1018 4013 ⟨by decide, by decide⟩ ⟨by omega, by omega⟩ (by decide) wL_X12_311 wS_mmax wI_math wC_mmax (Nat.le_of_ble_eq_true rfl) dX12_works_139 (fun y188 b189 => ?_)
    replace b189 : 0 ≤ y188 ∧ y188 ≤ 16 ∧ 0 ≤ y188 ∧ (y37 - y186) ≤ y188 := ⟨by omega, by omega, b189.1, b189.2.1⟩
    refine pm_putf hC 90 fl_X12_323 rfl rfl rfl (by decide) rfl trivial dX12_works_142 ?_
    refine pm_aload_n hC 2 (by decide) dX12_works_145 rfl ?_
    refine pm_lconst (x := 0) hC dX12_works_146 rfl ?_
    refine pm_putf hC 90 fl_X12_326 rfl rfl rfl (by decide) rfl trivial dX12_works_147 ?_
    refine pm_aload_n hC 2 (by decide) dX12_works_150 rfl ?_
    refine pm_lconst (x := 0) hC dX12_works_151 rfl ?_
    refine pm_putf hC 90 fl_X12_329 rfl rfl rfl (by decide) rfl trivial dX12_works_152 ?_
    refine pm_aload_n hC 2 (by decide) dX12_works_155 rfl ?_
    refine pm_lconst (x := 0) hC dX12_works_156 rfl ?_
    refine pm_putf hC 90 fl_X12_332 rfl rfl rfl (by decide) rfl trivial dX12_works_157 ?_
    refine pm_iconst (v := 0) hC dX12_works_160 ?_
    refine pm_istore (lv' := [(6, (0, 0)), (5, (0, y35)), (4, (0, (4 * (a1 / 100)))), (0, (3, 90)), (1, (0, a1)), (2, (0, a2)), (3, (0, a3))]) hC dX12_works_161 (by decide) rfl ?_
    have hV192 := ((((((((hV0.put 90 48 (x := ((a1 / 10) % 10)) (lo := 0) (hi := 8) rfl ⟨by omega, by omega⟩).put 90 49 (x := (a1 % 10)) (lo := 0) (hi := 8) rfl ⟨by omega, by omega⟩).put 90 42 (x := y17) (lo := 0) (hi := 171) rfl ⟨by omega, by omega⟩).put 90 43 (x := y30) (lo := 0) (hi := 171) rfl ⟨by omega, by omega⟩).put 90 47 (x := y188) (lo := 0) (hi := 16) rfl ⟨by omega, by omega⟩).put 90 44 (x := 0) (lo := 0) (hi := 13851) rfl ⟨by decide, by decide⟩).put 90 45 (x := 0) (lo := 0) (hi := 1539) rfl ⟨by decide, by decide⟩).put 90 46 (x := 0) (lo := 0) (hi := 2368521) rfl ⟨by decide, by decide⟩)
    have hF193 := (((((((((pm_fs.rf (cs := [110, 111]) (fs := [42, 43, 44, 45, 46, 47, 48, 49]) (V := V0)).upf 48 ((a1 / 10) % 10) rfl).upf 49 (a1 % 10) rfl).upf 42 y17 rfl).upf 43 y30 rfl).upf 47 y188 rfl).upf 44 0 rfl).upf 45 0 rfl).upf 46 0 rfl)
    obtain ⟨V190, hv191⟩ : ∃ V, V = (pm_up (pm_up (pm_up (pm_up (pm_up (pm_up (pm_up (pm_up V0 90 48 ((a1 / 10) % 10)) 90 49 (a1 % 10)) 90 42 y17) 90 43 y30) 90 47 y188) 90 44 0) 90 45 0) 90 46 0) := ⟨_, rfl⟩
    rw [← hv191] at hV192 hF193
    rw [← hv191]
    have e194 : V190 90 16 = y1 := by rw [hv191]; exact e2
    have e195 : V190 90 18 = 98 := by rw [hv191]; exact e4
    have e196 : V190 90 24 = 100 := by rw [hv191]; exact e8
    have e197 : V190 90 20 = y32 := by rw [hv191]; exact e33
    have e198 : V190 90 48 = ((a1 / 10) % 10) := by rw [hv191]; rfl
    have e199 : V190 90 49 = (a1 % 10) := by rw [hv191]; rfl
    have e200 : V190 90 42 = y17 := by rw [hv191]; rfl
    have e201 : V190 90 43 = y30 := by rw [hv191]; rfl
    have e202 : V190 90 47 = y188 := by rw [hv191]; rfl
    have e203 : V190 90 44 = 0 := by rw [hv191]; rfl
    have e204 : V190 90 45 = 0 := by rw [hv191]; rfl
    have e205 : V190 90 46 = 0 := by rw [hv191]; rfl
    have hp206 : pm_h1 V190 := by rw [hv191]; exact (pm_h1.fr hn_pm_h1 rfl rfl)
    have L228 : ∀ (N230 : Nat) (x207 : Int) (V209 : pm_M), (0 ≤ x207 ∧ x207 ≤ 9) → pm_oq pm_qB V209 → pm_fs [110, 111] [42, 43, 44, 45, 46, 47, 48, 49] V0 V209 → V209 90 16 = y1 → V209 90 18 = 98 → V209 90 24 = 100 → V209 90 20 = y32 → V209 90 48 = ((a1 / 10) % 10) → V209 90 49 = (a1 % 10) → V209 90 42 = y17 → V209 90 43 = y30 → V209 90 47 = y188 → pm_h1 V209 → (V209 90 44 ≤ 1539 * x207) → (V209 90 45 ≤ 171 * x207) → (V209 90 46 ≤ 263169 * x207) → (((a1 / 10) % 10) < x207 → 1 ≤ V209 110 (((a1 / 10) % 10)).toNat) → ((a1 % 10) < x207 → 1 ≤ V209 111 ((a1 % 10)).toNat) → (1 ≤ V209 90 46 → ∃ q : Nat, (q : Int) < x207 ∧ 1 ≤ V209 110 q ∧ 1 ≤ V209 111 q) → (Int.toNat (9 - x207)) = N230 → pm_J X 163 [(0, (3, 90)), (1, (0, a1)), (2, (0, a2)), (3, (0, a3)), (4, (0, (4 * (a1 / 100)))), (5, (0, y35)), (6, (0, x207))] [] 118 V209 := by
      intro N230
      induction N230 using Nat.strongRecOn with
      | _ N230 ih231 =>
      intro x207 V209 b208 hV210 hF211 e212 e213 e214 e215 e216 e217 e218 e219 e220 hp221 hm222 hm223 hm224 hx225 hx226 hx227 hm229
      refine pm_iload hC 6 dX12_works_163 rfl ?_
      refine pm_aload_n hC 0 (by decide) dX12_works_165 rfl ?_
      refine pm_getf (v := y1) hC 90 fl_X12_220 rfl rfl (by decide) rfl e212 dX12_works_166 ?_
      refine pm_icmp_ge (tgt := 337) hC ⟨by omega, by omega⟩ ⟨by omega, by omega⟩ dX12_works_169 (by decide) (fun c232 => ?_) (fun c232 => ?_)
      · skip
        have q233 : 1 ≤ V209 90 42 ∧ V209 90 42 ≤ 171 := by (have e : V209 90 42 = y17 := e218); rw [e]; exact ⟨by omega, by omega⟩
        have q234 : 1 ≤ V209 90 43 ∧ V209 90 43 ≤ 171 := by (have e : V209 90 43 = y30 := e219); rw [e]; exact ⟨by omega, by omega⟩
        exact pm_vret hC hR ⟨rfl, hV210, hF211, q233, q234, (by unfold pm_w1; rw [e216, e217, e212]; exact ⟨by omega, by omega, by omega, by omega, hx225 (by omega), hx226 (by omega)⟩), (by unfold pm_w3; rw [e212]; intro h; obtain ⟨q, q1, q2, q3⟩ := hx227 h; exact ⟨q, by omega, q2, q3⟩)⟩ dX12_works_337
      · skip
        refine pm_aload_n hC 0 (by decide) dX12_works_172 rfl ?_
        have e235 : V209 90 40 = 110 := hV210.one 90 40 (by decide) (by decide) rfl
        refine pm_getf (v := 110) hC 90 fl_X12_70 rfl rfl (by decide) rfl e235 dX12_works_173 ?_
        refine pm_iload hC 6 dX12_works_176 rfl ?_
        refine pm_iconst (v := 0) hC dX12_works_178 ?_
        refine pm_aload_n hC 0 (by decide) dX12_works_179 rfl ?_
        have e236 : V209 90 17 = 97 := hV210.one 90 17 (by decide) (by decide) rfl
        refine pm_getf (v := 97) hC 90 fl_X12_31 rfl rfl (by decide) rfl e236 dX12_works_180 ?_
        refine pm_iconst (v := 3) hC dX12_works_183 ?_
        refine pm_iload hC 6 dX12_works_184 rfl ?_
        refine pm_imul hC dX12_works_186 ?_
        refine pm_iconst (v := 2) hC dX12_works_187 ?_
        refine pm_iadd hC dX12_works_188 ?_
        obtain ⟨y237, e238⟩ : ∃ y, V209 97 (((3 * x207) + 2) : Int).toNat = y := ⟨_, rfl⟩
        have b239 := hV210.get 97 (((3 * x207) + 2) : Int).toNat (lo := 0) (hi := 9) (t := 0) (by decide) (show _ < 27 by omega) ((pm_qe_r (tb := pm_qB) (k := 97) (i := (((3 * x207) + 2) : Int).toNat) (m := 3) (r := 2) (l := [(0, 99, 0), (0, 99, 0), (0, 9, 0)]) rfl rfl (by omega)).trans rfl)
        rw [e238] at b239
        refine pm_iaload (len := 27) (v := y237) hC 97 rfl rfl (by decide) ⟨by omega, by omega⟩ (by decide) e238 dX12_works_189 ?_
        refine pm_aload_n hC 0 (by decide) dX12_works_190 rfl ?_
        refine pm_getf (v := y17) hC 90 fl_X12_317 rfl rfl (by decide) rfl e218 dX12_works_191 ?_
        refine pm_aload_n hC 0 (by decide) dX12_works_194 rfl ?_
        refine pm_iload hC 6 dX12_works_195 rfl ?_
        refine pm_callV (ci := 12) (as := [(0, x207)]) (st := [(0, y17), (0, y237), (0, 0), (0, x207), (3, 110)]) hC 90 (B_X12_x x207 ⟨by omega, by omega⟩) lm_X12_335 li_X12_x (by decide) (by decide) rfl rfl rfl (by decide) rfl rfl (Nat.le_of_ble_eq_true rfl) ⟨Nat.le_refl _, Or.inl rfl⟩ dX12_works_197 ⟨rfl, hV210⟩ (fun r240 V241 hp242 => ?_)
        obtain ⟨y243, rfl, b244, rfl⟩ := hp242
        change pm_J X 200 [(0, (3, 90)), (1, (0, a1)), (2, (0, a2)), (3, (0, a3)), (4, (0, (4 * (a1 / 100)))), (5, (0, y35)), (6, (0, x207))] [(0, y243), (0, y17), (0, y237), (0, 0), (0, x207), (3, 110)] 118 V209
        refine pm_aload_n hC 0 (by decide) dX12_works_200 rfl ?_
        refine pm_aload_n hC 0 (by decide) dX12_works_201 rfl ?_
        refine pm_getf (v := ((a1 / 10) % 10)) hC 90 fl_X12_305 rfl rfl (by decide) rfl e216 dX12_works_202 ?_
        refine pm_callV (ci := 12) (as := [(0, ((a1 / 10) % 10))]) (st := [(0, y243), (0, y17), (0, y237), (0, 0), (0, x207), (3, 110)]) hC 90 (B_X12_x ((a1 / 10) % 10) ⟨by omega, by omega⟩) lm_X12_335 li_X12_x (by decide) (by decide) rfl rfl rfl (by decide) rfl rfl (Nat.le_of_ble_eq_true rfl) ⟨Nat.le_refl _, Or.inl rfl⟩ dX12_works_205 ⟨rfl, hV210⟩ (fun r245 V246 hp247 => ?_)
        obtain ⟨y248, rfl, b249, rfl⟩ := hp247
        change pm_J X 208 [(0, (3, 90)), (1, (0, a1)), (2, (0, a2)), (3, (0, a3)), (4, (0, (4 * (a1 / 100)))), (5, (0, y35)), (6, (0, x207))] [(0, y248), (0, y243), (0, y17), (0, y237), (0, 0), (0, x207), (3, 110)] 118 V209
        refine pm_isub hC dX12_works_208 ?_
        refine pm_callS (as := [(0, (y243 - y248))]) (st := [(0, y17), (0, y237), (0, 0), (0, x207), (3, 110)]) hC (B_X12_far (y243 - y248) ⟨by omega, by omega⟩) lm_X12_338 ls_X12_far (by decide) (by decide) rfl rfl (Nat.le_of_ble_eq_true rfl) ⟨Nat.le_refl _, Or.inl rfl⟩ dX12_works_209 ⟨rfl, hV210⟩ (fun r250 V251 hp252 => ?_)
        obtain ⟨y253, rfl, b254, rfl⟩ := hp252
        change pm_J X 212 [(0, (3, 90)), (1, (0, a1)), (2, (0, a2)), (3, (0, a3)), (4, (0, (4 * (a1 / 100)))), (5, (0, y35)), (6, (0, x207))] [(0, y253), (0, y17), (0, y237), (0, 0), (0, x207), (3, 110)] 118 V209
        refine pm_isub hC dX12_works_212 ?_
        refine pm_aload_n hC 0 (by decide) dX12_works_213 rfl ?_
        refine pm_iload hC 6 dX12_works_214 rfl ?_
        refine pm_callV (ci := 12) (as := [(0, x207)]) (st := [(0, (y17 - y253)), (0, y237), (0, 0), (0, x207), (3, 110)]) hC 90 (B_X12_y x207 ⟨by omega, by omega⟩) lm_X12_341 li_X12_y (by decide) (by decide) rfl rfl rfl (by decide) rfl rfl (Nat.le_of_ble_eq_true rfl) ⟨Nat.le_refl _, Or.inl rfl⟩ dX12_works_216 ⟨rfl, hV210⟩ (fun r255 V256 hp257 => ?_)
        obtain ⟨y258, rfl, b259, rfl⟩ := hp257
        change pm_J X 219 [(0, (3, 90)), (1, (0, a1)), (2, (0, a2)), (3, (0, a3)), (4, (0, (4 * (a1 / 100)))), (5, (0, y35)), (6, (0, x207))] [(0, y258), (0, (y17 - y253)), (0, y237), (0, 0), (0, x207), (3, 110)] 118 V209
        refine pm_aload_n hC 0 (by decide) dX12_works_219 rfl ?_
        refine pm_aload_n hC 0 (by decide) dX12_works_220 rfl ?_
        refine pm_getf (v := ((a1 / 10) % 10)) hC 90 fl_X12_305 rfl rfl (by decide) rfl e216 dX12_works_221 ?_
        refine pm_callV (ci := 12) (as := [(0, ((a1 / 10) % 10))]) (st := [(0, y258), (0, (y17 - y253)), (0, y237), (0, 0), (0, x207), (3, 110)]) hC 90 (B_X12_y ((a1 / 10) % 10) ⟨by omega, by omega⟩) lm_X12_341 li_X12_y (by decide) (by decide) rfl rfl rfl (by decide) rfl rfl (Nat.le_of_ble_eq_true rfl) ⟨Nat.le_refl _, Or.inl rfl⟩ dX12_works_224 ⟨rfl, hV210⟩ (fun r260 V261 hp262 => ?_)
        obtain ⟨y263, rfl, b264, rfl⟩ := hp262
        change pm_J X 227 [(0, (3, 90)), (1, (0, a1)), (2, (0, a2)), (3, (0, a3)), (4, (0, (4 * (a1 / 100)))), (5, (0, y35)), (6, (0, x207))] [(0, y263), (0, y258), (0, (y17 - y253)), (0, y237), (0, 0), (0, x207), (3, 110)] 118 V209
        refine pm_isub hC dX12_works_227 ?_
        refine pm_callS (as := [(0, (y258 - y263))]) (st := [(0, (y17 - y253)), (0, y237), (0, 0), (0, x207), (3, 110)]) hC (B_X12_far (y258 - y263) ⟨by omega, by omega⟩) lm_X12_338 ls_X12_far (by decide) (by decide) rfl rfl (Nat.le_of_ble_eq_true rfl) ⟨Nat.le_refl _, Or.inl rfl⟩ dX12_works_228 ⟨rfl, hV210⟩ (fun r265 V266 hp267 => ?_)
        obtain ⟨y268, rfl, b269, rfl⟩ := hp267
        change pm_J X 231 [(0, (3, 90)), (1, (0, a1)), (2, (0, a2)), (3, (0, a3)), (4, (0, (4 * (a1 / 100)))), (5, (0, y35)), (6, (0, x207))] [(0, y268), (0, (y17 - y253)), (0, y237), (0, 0), (0, x207), (3, 110)] 118 V209
        refine pm_isub hC dX12_works_231 ?_
        refine pm_imul hC dX12_works_232 ?_
        have b271 : (-1773) ≤ (y237 * ((y17 - y253) - y268)) ∧ (y237 * ((y17 - y253) - y268)) ≤ 1539 := pm_mulg (a := 0) (b := 9) (c := (-197)) (d := 171) ⟨by omega, by omega⟩ ⟨by omega, by omega⟩ (by decide) (by decide)
        generalize hey270 : (y237 * ((y17 - y253) - y268)) = y270 at b271 ⊢
        refine pm_mmax hC 7047 4012 1018 4013 ⟨by decide, by decide⟩ ⟨by omega, by omega⟩ (by decide) wL_X12_311 wS_mmax wI_math wC_mmax (Nat.le_of_ble_eq_true rfl) dX12_works_233 (fun y272 b273 => ?_)
        replace b273 : 0 ≤ y272 ∧ y272 ≤ 1539 ∧ 0 ≤ y272 ∧ y270 ≤ y272 := ⟨by omega, by omega, b273.1, b273.2.1⟩
        have hv274 : ((a1 / 10) % 10) = x207 → 1 ≤ y272 := by
          intro hq
          have q1 : V209 97 (3 * x207).toNat = V209 97 (3 * ((a1 / 10) % 10)).toNat := by rw [hq]
          have q2 : V209 97 (3 * x207 + 1).toNat = V209 97 (3 * ((a1 / 10) % 10) + 1).toNat := by rw [hq]
          have hh := hp221 x207 (by omega) (by omega)
          have hfz0 : y253 = 0 := pm_far0 b254 (by omega)
          have hfz1 : y268 = 0 := pm_far0 b269 (by omega)
          have hp : 1 ≤ y237 * ((y17 - y253) - y268) := pm_mul1 (by omega) (by omega)
          omega
        refine pm_iastore (len := 9) hC 110 rfl rfl (by decide) ⟨by omega, by omega⟩ (by decide) dX12_works_236 ?_
        refine pm_aload_n hC 0 (by decide) dX12_works_237 rfl ?_
        have e275 : V209 90 41 = 111 := hV210.one 90 41 (by decide) (by decide) rfl
        refine pm_getf (v := 111) hC 90 fl_X12_73 rfl rfl (by decide) rfl e275 dX12_works_238 ?_
        refine pm_iload hC 6 dX12_works_241 rfl ?_
        refine pm_iconst (v := 0) hC dX12_works_243 ?_
        refine pm_aload_n hC 0 (by decide) dX12_works_244 rfl ?_
        refine pm_getf (v := y30) hC 90 fl_X12_320 rfl rfl (by decide) rfl e219 dX12_works_245 ?_
        refine pm_aload_n hC 0 (by decide) dX12_works_248 rfl ?_
        refine pm_iload hC 6 dX12_works_249 rfl ?_
        refine pm_callV (ci := 12) (as := [(0, x207)]) (st := [(0, y30), (0, 0), (0, x207), (3, 111)]) hC 90 (B_X12_x x207 ⟨by omega, by omega⟩) lm_X12_335 li_X12_x (by decide) (by decide) rfl rfl rfl (by decide) rfl rfl (Nat.le_of_ble_eq_true rfl) ⟨Nat.le_refl _, Or.inl rfl⟩ dX12_works_251 ⟨rfl, (hV210.put 110 (x207 : Int).toNat (x := y272) (lo := 0) (hi := 1539) rfl ⟨by omega, by omega⟩)⟩ (fun r276 V277 hp278 => ?_)
        obtain ⟨y279, rfl, b280, rfl⟩ := hp278
        change pm_J X 254 [(0, (3, 90)), (1, (0, a1)), (2, (0, a2)), (3, (0, a3)), (4, (0, (4 * (a1 / 100)))), (5, (0, y35)), (6, (0, x207))] [(0, y279), (0, y30), (0, 0), (0, x207), (3, 111)] 118 (pm_up V209 110 (x207 : Int).toNat y272)
        refine pm_aload_n hC 0 (by decide) dX12_works_254 rfl ?_
        refine pm_aload_n hC 0 (by decide) dX12_works_255 rfl ?_
        refine pm_getf (v := (a1 % 10)) hC 90 fl_X12_308 rfl rfl (by decide) rfl e217 dX12_works_256 ?_
        refine pm_callV (ci := 12) (as := [(0, (a1 % 10))]) (st := [(0, y279), (0, y30), (0, 0), (0, x207), (3, 111)]) hC 90 (B_X12_x (a1 % 10) ⟨by omega, by omega⟩) lm_X12_335 li_X12_x (by decide) (by decide) rfl rfl rfl (by decide) rfl rfl (Nat.le_of_ble_eq_true rfl) ⟨Nat.le_refl _, Or.inl rfl⟩ dX12_works_259 ⟨rfl, (hV210.put 110 (x207 : Int).toNat (x := y272) (lo := 0) (hi := 1539) rfl ⟨by omega, by omega⟩)⟩ (fun r281 V282 hp283 => ?_)
        obtain ⟨y284, rfl, b285, rfl⟩ := hp283
        change pm_J X 262 [(0, (3, 90)), (1, (0, a1)), (2, (0, a2)), (3, (0, a3)), (4, (0, (4 * (a1 / 100)))), (5, (0, y35)), (6, (0, x207))] [(0, y284), (0, y279), (0, y30), (0, 0), (0, x207), (3, 111)] 118 (pm_up V209 110 (x207 : Int).toNat y272)
        refine pm_isub hC dX12_works_262 ?_
        refine pm_callS (as := [(0, (y279 - y284))]) (st := [(0, y30), (0, 0), (0, x207), (3, 111)]) hC (B_X12_far (y279 - y284) ⟨by omega, by omega⟩) lm_X12_338 ls_X12_far (by decide) (by decide) rfl rfl (Nat.le_of_ble_eq_true rfl) ⟨Nat.le_refl _, Or.inl rfl⟩ dX12_works_263 ⟨rfl, (hV210.put 110 (x207 : Int).toNat (x := y272) (lo := 0) (hi := 1539) rfl ⟨by omega, by omega⟩)⟩ (fun r286 V287 hp288 => ?_)
        obtain ⟨y289, rfl, b290, rfl⟩ := hp288
        change pm_J X 266 [(0, (3, 90)), (1, (0, a1)), (2, (0, a2)), (3, (0, a3)), (4, (0, (4 * (a1 / 100)))), (5, (0, y35)), (6, (0, x207))] [(0, y289), (0, y30), (0, 0), (0, x207), (3, 111)] 118 (pm_up V209 110 (x207 : Int).toNat y272)
        refine pm_isub hC dX12_works_266 ?_
        refine pm_mmax hC 7047 4012 1018 4013 ⟨by decide, by decide⟩ ⟨by omega, by omega⟩ (by decide) wL_X12_311 wS_mmax wI_math wC_mmax (Nat.le_of_ble_eq_true rfl) dX12_works_267 (fun y291 b292 => ?_)
        replace b292 : 0 ≤ y291 ∧ y291 ≤ 171 ∧ 0 ≤ y291 ∧ (y30 - y289) ≤ y291 := ⟨by omega, by omega, b292.1, b292.2.1⟩
        have hv293 : (a1 % 10) = x207 → 1 ≤ y291 := by
          intro hq
          have q1 : V209 97 (3 * x207).toNat = V209 97 (3 * (a1 % 10)).toNat := by rw [hq]
          have hfz0 : y289 = 0 := pm_far0 b290 (by omega)
          omega
        refine pm_iastore (len := 9) hC 111 rfl rfl (by decide) ⟨by omega, by omega⟩ (by decide) dX12_works_270 ?_
        refine pm_aload_n hC 0 (by decide) dX12_works_271 rfl ?_
        refine pm_dup hC rfl dX12_works_272 ?_
        obtain ⟨y294, e295⟩ : ∃ y, V209 90 44 = y := ⟨_, rfl⟩
        have b296 := hV210.get 90 44 (lo := 0) (hi := 13851) (by decide) (by decide) rfl
        rw [e295] at b296
        refine pm_getf (v := y294) hC 90 fl_X12_326 rfl rfl (by decide) rfl e295 dX12_works_273 ?_
        refine pm_aload_n hC 0 (by decide) dX12_works_276 rfl ?_
        refine pm_getf (v := 110) hC 90 fl_X12_70 rfl rfl (by decide) rfl e235 dX12_works_277 ?_
        refine pm_iload hC 6 dX12_works_280 rfl ?_
        have hV299 := ((hV210.put 110 (x207 : Int).toNat (x := y272) (lo := 0) (hi := 1539) rfl ⟨by omega, by omega⟩).put 111 (x207 : Int).toNat (x := y291) (lo := 0) (hi := 171) rfl ⟨by omega, by omega⟩)
        have hF300 := ((hF211.up 110 (x207 : Int).toNat y272 (by decide) rfl).up 111 (x207 : Int).toNat y291 (by decide) rfl)
        obtain ⟨V297, hv298⟩ : ∃ V, V = (pm_up (pm_up V209 110 (x207 : Int).toNat y272) 111 (x207 : Int).toNat y291) := ⟨_, rfl⟩
        rw [← hv298] at hV299 hF300
        rw [← hv298]
        have e301 : V297 90 16 = y1 := by rw [hv298]; exact e212
        have e302 : V297 90 18 = 98 := by rw [hv298]; exact e213
        have e303 : V297 90 24 = 100 := by rw [hv298]; exact e214
        have e304 : V297 90 20 = y32 := by rw [hv298]; exact e215
        have e305 : V297 90 48 = ((a1 / 10) % 10) := by rw [hv298]; exact e216
        have e306 : V297 90 49 = (a1 % 10) := by rw [hv298]; exact e217
        have e307 : V297 90 42 = y17 := by rw [hv298]; exact e218
        have e308 : V297 90 43 = y30 := by rw [hv298]; exact e219
        have e309 : V297 90 47 = y188 := by rw [hv298]; exact e220
        have e310 : V297 90 40 = 110 := by rw [hv298]; exact e235
        have e311 : V297 90 17 = 97 := by rw [hv298]; exact e236
        have e312 : V297 90 41 = 111 := by rw [hv298]; exact e275
        have e313 : V297 90 44 = y294 := by rw [hv298]; exact e295
        have hp314 : pm_h1 V297 := by rw [hv298]; exact (pm_h1.fr hp221 rfl rfl)
        obtain ⟨y315, e316⟩ : ∃ y, V297 110 (x207 : Int).toNat = y := ⟨_, rfl⟩
        have b317 := hV299.get 110 (x207 : Int).toNat (lo := 0) (hi := 1539) (t := 0) (by decide) (show _ < 9 by omega) rfl
        rw [e316] at b317
        refine pm_iaload (len := 9) (v := y315) hC 110 rfl rfl (by decide) ⟨by omega, by omega⟩ (by decide) e316 dX12_works_282 ?_
        refine pm_i2l hC ⟨by omega, by omega⟩ dX12_works_283 ?_
        refine pm_ladd hC dX12_works_284 ?_
        refine pm_putf hC 90 fl_X12_326 rfl rfl rfl (by decide) rfl trivial dX12_works_285 ?_
        refine pm_aload_n hC 0 (by decide) dX12_works_288 rfl ?_
        refine pm_dup hC rfl dX12_works_289 ?_
        obtain ⟨y318, e319⟩ : ∃ y, V297 90 45 = y := ⟨_, rfl⟩
        have b320 := hV299.get 90 45 (lo := 0) (hi := 1539) (by decide) (by decide) rfl
        rw [e319] at b320
        refine pm_getf (v := y318) hC 90 fl_X12_329 rfl rfl (by decide) rfl e319 dX12_works_290 ?_
        refine pm_aload_n hC 0 (by decide) dX12_works_293 rfl ?_
        refine pm_getf (v := 111) hC 90 fl_X12_73 rfl rfl (by decide) rfl e312 dX12_works_294 ?_
        refine pm_iload hC 6 dX12_works_297 rfl ?_
        obtain ⟨y321, e322⟩ : ∃ y, V297 111 (x207 : Int).toNat = y := ⟨_, rfl⟩
        have b323 := hV299.get 111 (x207 : Int).toNat (lo := 0) (hi := 171) (t := 0) (by decide) (show _ < 9 by omega) rfl
        rw [e322] at b323
        refine pm_iaload (len := 9) (v := y321) hC 111 rfl rfl (by decide) ⟨by omega, by omega⟩ (by decide) e322 dX12_works_299 ?_
        refine pm_i2l hC ⟨by omega, by omega⟩ dX12_works_300 ?_
        refine pm_ladd hC dX12_works_301 ?_
        refine pm_putf hC 90 fl_X12_329 rfl rfl rfl (by decide) rfl trivial dX12_works_302 ?_
        refine pm_aload_n hC 0 (by decide) dX12_works_305 rfl ?_
        refine pm_dup hC rfl dX12_works_306 ?_
        obtain ⟨y324, e325⟩ : ∃ y, V297 90 46 = y := ⟨_, rfl⟩
        have b326 := hV299.get 90 46 (lo := 0) (hi := 2368521) (by decide) (by decide) rfl
        rw [e325] at b326
        refine pm_getf (v := y324) hC 90 fl_X12_332 rfl rfl (by decide) rfl e325 dX12_works_307 ?_
        refine pm_aload_n hC 0 (by decide) dX12_works_310 rfl ?_
        refine pm_getf (v := 110) hC 90 fl_X12_70 rfl rfl (by decide) rfl e310 dX12_works_311 ?_
        refine pm_iload hC 6 dX12_works_314 rfl ?_
        refine pm_iaload (len := 9) (v := y315) hC 110 rfl rfl (by decide) ⟨by omega, by omega⟩ (by decide) e316 dX12_works_316 ?_
        refine pm_i2l hC ⟨by omega, by omega⟩ dX12_works_317 ?_
        refine pm_aload_n hC 0 (by decide) dX12_works_318 rfl ?_
        refine pm_getf (v := 111) hC 90 fl_X12_73 rfl rfl (by decide) rfl e312 dX12_works_319 ?_
        refine pm_iload hC 6 dX12_works_322 rfl ?_
        refine pm_iaload (len := 9) (v := y321) hC 111 rfl rfl (by decide) ⟨by omega, by omega⟩ (by decide) e322 dX12_works_324 ?_
        refine pm_i2l hC ⟨by omega, by omega⟩ dX12_works_325 ?_
        refine pm_lmul hC dX12_works_326 ?_
        have b328 : 0 ≤ (y315 * y321) ∧ (y315 * y321) ≤ 263169 := pm_mulb (by omega) (by omega) (show y315 ≤ 1539 by omega) (show y321 ≤ 171 by omega) (by decide)
        generalize hey327 : (y315 * y321) = y327 at b328 ⊢
        refine pm_ladd hC dX12_works_327 ?_
        refine pm_putf hC 90 fl_X12_332 rfl rfl rfl (by decide) rfl trivial dX12_works_328 ?_
        obtain ⟨x329, ei330⟩ : ∃ y : Int, x207 + 1 = y := ⟨_, rfl⟩
        refine pm_iinc (y := x329) (lv' := [(6, (0, x329)), (0, (3, 90)), (1, (0, a1)), (2, (0, a2)), (3, (0, a3)), (4, (0, (4 * (a1 / 100)))), (5, (0, y35))]) hC 6 dX12_works_331 (by decide) rfl ei330 rfl ?_
        refine pm_goto (tgt := 163) hC dX12_works_334 (by decide) ?_
        refine pm_lvsub [1, 2, 3, 4, 5, 6, 0] (lv' := [(0, (3, 90)), (1, (0, a1)), (2, (0, a2)), (3, (0, a3)), (4, (0, (4 * (a1 / 100)))), (5, (0, y35)), (6, (0, x329))]) rfl ?_
        exact ih231 _ (by omega) x329 (pm_up (pm_up (pm_up V297 90 44 (y294 + y315)) 90 45 (y318 + y321)) 90 46 (y324 + y327)) ⟨by omega, by omega⟩ (((hV299.put 90 44 (x := (y294 + y315)) (lo := 0) (hi := 13851) rfl ⟨by omega, by omega⟩).put 90 45 (x := (y318 + y321)) (lo := 0) (hi := 1539) rfl ⟨by omega, by omega⟩).put 90 46 (x := (y324 + y327)) (lo := 0) (hi := 2368521) rfl ⟨by omega, by omega⟩) (((hF300.upf 44 (y294 + y315) rfl).upf 45 (y318 + y321) rfl).upf 46 (y324 + y327) rfl) e301 e302 e303 e304 e305 e306 e307 e308 e309 (pm_h1.fr hp314 rfl rfl) (show (y294 + y315) ≤ 1539 * x329 by omega) (show (y318 + y321) ≤ 171 * x329 by omega) (show (y324 + y327) ≤ 263169 * x329 by omega) (fun h => by show 1 ≤ V297 110 (((a1 / 10) % 10)).toNat; rw [hv298]; exact pm_up_get (V := V209) (k := 110) (i := x207) (a := ((a1 / 10) % 10)) (x := y272) (p := fun z => 1 ≤ z) (by omega) (by omega) hv274 (fun hne => hx225 (by omega))) (fun h => by show 1 ≤ V297 111 ((a1 % 10)).toNat; rw [hv298]; exact pm_up_get (V := V209) (k := 111) (i := x207) (a := (a1 % 10)) (x := y291) (p := fun z => 1 ≤ z) (by omega) (by omega) hv293 (fun hne => hx226 (by omega))) (fun h => by have h9 : 1 ≤ (y324 + y327) := h; (by_cases hy : 1 ≤ y327); (have hm : y315 * y321 = y327 := hey327; obtain ⟨m1, m2⟩ := pm_mulpos (x := y315) (y := y321) (by omega) (by omega) (by rw [hm]; exact hy); exact ⟨((x207) : Int).toNat, by omega, by (show 1 ≤ V297 110 ((x207) : Int).toNat; rw [e316]; exact m1), by (show 1 ≤ V297 111 ((x207) : Int).toNat; rw [e322]; exact m2)⟩); (obtain ⟨q, q1, q2, q3⟩ := hx227 (by (have h46 : V209 90 46 = V297 90 46 := by rw [hv298]; rfl); rw [h46, e325]; omega); exact ⟨q, by omega, by (show 1 ≤ V297 110 q; rw [hv298, pm_up_c (by decide), pm_up_i (by omega)]; exact q2), by (show 1 ≤ V297 111 q; rw [hv298, pm_up_i (by omega), pm_up_c (by decide)]; exact q3)⟩)) rfl
    refine pm_lvsub [3, 4, 5, 6, 2, 1, 0] (lv' := [(0, (3, 90)), (1, (0, a1)), (2, (0, a2)), (3, (0, a3)), (4, (0, (4 * (a1 / 100)))), (5, (0, y35)), (6, (0, 0))]) rfl ?_
    exact L228 _ 0 V190 ⟨by decide, by decide⟩ hV192 hF193 e194 e195 e196 e197 e198 e199 e200 e201 e202 hp206 (by (have e : V190 90 44 = 0 := e203); rw [e]; omega) (by (have e : V190 90 45 = 0 := e204); rw [e]; omega) (by (have e : V190 90 46 = 0 := e205); rw [e]; omega) (fun h => absurd h (by omega)) (fun h => absurd h (by omega)) (fun h => absurd h (by rw [e205]; decide)) rfl
set_option maxHeartbeats 4000000 in
set_option maxRecDepth 100000 in
theorem B_X12_worksAnswer (a1 : Int) (h0 : 0 ≤ a1 ∧ a1 ≤ 59) : pm_K 3 yX12_worksAnswer cX12_worksAnswer 2 none (fun av V => av = [(3, 90), (0, a1)] ∧ pm_oq pm_qB V ∧ (a1 < V 90 25) ∧ pm_h1 V ∧ pm_h3 V) (fun _ V r V' => r = none ∧ pm_oq pm_qB V' ∧ pm_fs [110, 111] [42, 43, 44, 45, 46, 47, 48, 49] V V' ∧ (1 ≤ V' 90 42 ∧ V' 90 42 ≤ 171) ∧ (1 ≤ V' 90 43 ∧ V' 90 43 ≤ 171) ∧ pm_w1 V' ∧ pm_w3 V') := by
  refine pm_MT.of (by decide) ⟨Nat.le_refl _, by decide⟩ (fun av V h => by rw [h.1]; exact (by decide : pm_words [(3, 0), (0, 0)] ≤ 2)) ?_
  rintro X av V0 hC - hR ⟨rfl, hV0, hmp0, hn_pm_h1, hn_pm_h3⟩
  change pm_J X 0 [(0, (3, 90)), (1, (0, a1))] [] 118 V0
  obtain ⟨y1, e2⟩ : ∃ y, V0 90 25 = y := ⟨_, rfl⟩
  have b3 := hV0.get 90 25 (lo := 0) (hi := 60) (by decide) (by decide) rfl
  rw [e2] at b3
  have hh3 := hn_pm_h3 a1 (by omega) (by omega)
  refine pm_aload_n hC 0 (by decide) dX12_worksAnswer_0 rfl ?_
  refine pm_aload_n hC 0 (by decide) dX12_worksAnswer_1 rfl ?_
  have e4 : V0 90 26 = 101 := hV0.one 90 26 (by decide) (by decide) rfl
  refine pm_getf (v := 101) hC 90 fl_X12_43 rfl rfl (by decide) rfl e4 dX12_worksAnswer_2 ?_
  refine pm_iconst (v := 5) hC dX12_worksAnswer_5 ?_
  refine pm_iload_n hC 1 dX12_worksAnswer_6 rfl ?_
  refine pm_imul hC dX12_worksAnswer_7 ?_
  obtain ⟨y5, e6⟩ : ∃ y, V0 101 ((5 * a1) : Int).toNat = y := ⟨_, rfl⟩
  have b7 := hV0.get1 101 ((5 * a1) : Int).toNat (lo := 0) (hi := 999) (by decide) (show _ < 300 by omega) ((pm_qe_r (tb := pm_qB) (k := 101) (i := ((5 * a1) : Int).toNat) (m := 5) (r := 0) (l := [(0, 999, 1), (0, 99, 0), (-99, 99, 0), (0, 8, 0), (0, 1, 0)]) rfl rfl (by omega)).trans rfl)
  rw [e6] at b7
  refine pm_iaload (len := 300) (v := y5) hC 101 rfl rfl (by decide) ⟨by omega, by omega⟩ (by decide) e6 dX12_worksAnswer_8 ?_
  refine pm_aload_n hC 0 (by decide) dX12_worksAnswer_9 rfl ?_
  refine pm_getf (v := 101) hC 90 fl_X12_43 rfl rfl (by decide) rfl e4 dX12_worksAnswer_10 ?_
  refine pm_iconst (v := 5) hC dX12_worksAnswer_13 ?_
  refine pm_iload_n hC 1 dX12_worksAnswer_14 rfl ?_
  refine pm_imul hC dX12_worksAnswer_15 ?_
  refine pm_iconst (v := 1) hC dX12_worksAnswer_16 ?_
  refine pm_iadd hC dX12_worksAnswer_17 ?_
  obtain ⟨y8, e9⟩ : ∃ y, V0 101 (((5 * a1) + 1) : Int).toNat = y := ⟨_, rfl⟩
  have b10 := hV0.get 101 (((5 * a1) + 1) : Int).toNat (lo := 0) (hi := 99) (t := 0) (by decide) (show _ < 300 by omega) ((pm_qe_r (tb := pm_qB) (k := 101) (i := (((5 * a1) + 1) : Int).toNat) (m := 5) (r := 1) (l := [(0, 999, 1), (0, 99, 0), (-99, 99, 0), (0, 8, 0), (0, 1, 0)]) rfl rfl (by omega)).trans rfl)
  rw [e9] at b10
  refine pm_iaload (len := 300) (v := y8) hC 101 rfl rfl (by decide) ⟨by omega, by omega⟩ (by decide) e9 dX12_worksAnswer_18 ?_
  refine pm_aload_n hC 0 (by decide) dX12_worksAnswer_19 rfl ?_
  refine pm_getf (v := 101) hC 90 fl_X12_43 rfl rfl (by decide) rfl e4 dX12_worksAnswer_20 ?_
  refine pm_iconst (v := 5) hC dX12_worksAnswer_23 ?_
  refine pm_iload_n hC 1 dX12_worksAnswer_24 rfl ?_
  refine pm_imul hC dX12_worksAnswer_25 ?_
  refine pm_iconst (v := 2) hC dX12_worksAnswer_26 ?_
  refine pm_iadd hC dX12_worksAnswer_27 ?_
  obtain ⟨y11, e12⟩ : ∃ y, V0 101 (((5 * a1) + 2) : Int).toNat = y := ⟨_, rfl⟩
  have b13 := hV0.get 101 (((5 * a1) + 2) : Int).toNat (lo := (-99)) (hi := 99) (t := 0) (by decide) (show _ < 300 by omega) ((pm_qe_r (tb := pm_qB) (k := 101) (i := (((5 * a1) + 2) : Int).toNat) (m := 5) (r := 2) (l := [(0, 999, 1), (0, 99, 0), (-99, 99, 0), (0, 8, 0), (0, 1, 0)]) rfl rfl (by omega)).trans rfl)
  rw [e12] at b13
  refine pm_iaload (len := 300) (v := y11) hC 101 rfl rfl (by decide) ⟨by omega, by omega⟩ (by decide) e12 dX12_worksAnswer_28 ?_
  refine pm_callV (ci := 12) (as := [(0, y5), (0, y8), (0, y11)]) (st := []) hC 90 (B_X12_works y5 y8 y11 ⟨by omega, by omega⟩ ⟨by omega, by omega⟩ ⟨by omega, by omega⟩ (by omega)) lm_X12_376 li_X12_works (by decide) (by decide) rfl rfl rfl (by decide) rfl rfl (Nat.le_of_ble_eq_true rfl) ⟨Nat.le_refl _, Or.inl rfl⟩ dX12_worksAnswer_29 ⟨rfl, hV0, (show (y5) % 10 < V0 90 16 by omega), (show (y5) / 10 % 10 < V0 90 16 by omega), hn_pm_h1⟩ (fun r14 V15 hp16 => ?_)
  obtain ⟨rfl, hV17, hF18, hq19, hq20, hg21, hg22⟩ := hp16
  change pm_J X 32 [(0, (3, 90)), (1, (0, a1))] [] 118 V15
  have hF23 := pm_fs.tr (pm_fs.rf (cs := [110, 111]) (fs := [42, 43, 44, 45, 46, 47, 48, 49]) (V := V0)) hF18 (by decide) (by decide)
  have e24 : V15 90 25 = y1 := by rw [hF18.2 25 (by decide)]; exact e2
  have e25 : V15 90 26 = 101 := by rw [hF18.2 26 (by decide)]; exact e4
  have hp26 : pm_h1 V15 := (pm_h1.fr hn_pm_h1 (hF18.2 16 (by decide)) (hF18.1 97 (by decide) (by decide)))
  have hp27 : pm_h3 V15 := (pm_h3.fr hn_pm_h3 (hF18.2 16 (by decide)) (hF18.2 25 (by decide)) (hF18.1 101 (by decide) (by decide)))
  obtain ⟨z28, ez29⟩ : ∃ z, V15 90 42 = z := ⟨_, rfl⟩
  rw [ez29] at hq19
  obtain ⟨z30, ez31⟩ : ∃ z, V15 90 43 = z := ⟨_, rfl⟩
  rw [ez31] at hq20
  have q32 : 1 ≤ V15 90 42 ∧ V15 90 42 ≤ 171 := by (have e : V15 90 42 = z28 := ez29); rw [e]; exact ⟨by omega, by omega⟩
  have q33 : 1 ≤ V15 90 43 ∧ V15 90 43 ≤ 171 := by (have e : V15 90 43 = z30 := ez31); rw [e]; exact ⟨by omega, by omega⟩
  exact pm_vret hC hR ⟨rfl, hV17, hF23, q32, q33, hg21, hg22⟩ dX12_worksAnswer_32
