set_option maxHeartbeats 4000000 in
set_option maxRecDepth 100000 in
theorem B_X12_works (a1 a2 a3 : Int) (h0 : 0 ≤ a1 ∧ a1 ≤ 999) (h1 : 0 ≤ a2 ∧ a2 ≤ 99) (h2 : (-99) ≤ a3 ∧ a3 ≤ 99) (h3 : a1 % 10 ≤ 8 ∧ a1 / 10 % 10 ≤ 8) : pm_K 2 yX12_works cX12_works 7 none (fun av V => av = [(3, 90), (0, a1), (0, a2), (0, a3)] ∧ pm_oq pm_qB V ∧ (a1 % 10 < V 90 16) ∧ (a1 / 10 % 10 < V 90 16) ∧ pm_h1 V) (fun _ V r V' => r = none ∧ pm_oq pm_qB V' ∧ pm_fs [110, 111] [42, 43, 44, 45, 46, 47, 48, 49] V V' ∧ (1 ≤ V' 90 42 ∧ V' 90 42 ≤ 171) ∧ (1 ≤ V' 90 43 ∧ V' 90 43 ≤ 171) ∧ pm_w1 V' ∧ pm_w3 V') := by
  refine pm_MT.of (by decide) ⟨Nat.le_refl _, by decide⟩ (fun av V h => by rw [h.1]; exact (by decide : pm_words [(3, 0), (0, 0), (0, 0), (0, 0)] ≤ 7)) ?_
  rintro X av V0 hC - hR ⟨rfl, hV0, hmp0, hmp1, hn_pm_h1⟩
  change pm_J X 0 [(0, (3, 90)), (1, (0, a1)), (2, (0, a2)), (3, (0, a3))] [] 118 V0
  obtain ⟨y1, e2⟩ : ∃ y, V0 90 16 = y := ⟨_, rfl⟩
  have b3 := hV0.get 90 16 (lo := 2) (hi := 9) (by decide) (by decide) rfl
  rw [e2] at b3
  refine pm_iconst (v := 4) hC dX12_works_0 ?_
  refine pm_iload_n hC 1 dX12_works_1 rfl ?_
  refine pm_bipush (v := 100) hC dX12_works_2 (by decide) ?_
  refine pm_idiv hC ⟨by omega, by omega, by omega⟩ ⟨by decide, by decide, by decide⟩ dX12_works_4 ?_
  refine pm_imul hC dX12_works_5 ?_
  refine pm_istore (lv' := [(4, (0, (4 * (a1 / 100)))), (0, (3, 90)), (1, (0, a1)), (2, (0, a2)), (3, (0, a3))]) hC dX12_works_6 (by decide) rfl ?_
  refine pm_aload_n hC 1 (by decide) dX12_works_8 rfl ?_
  refine pm_iload_n hC 2 dX12_works_9 rfl ?_
  refine pm_bipush (v := 10) hC dX12_works_10 (by decide) ?_
  refine pm_idiv hC ⟨by omega, by omega, by omega⟩ ⟨by decide, by decide, by decide⟩ dX12_works_12 ?_
  refine pm_bipush (v := 10) hC dX12_works_13 (by decide) ?_
  refine pm_irem hC ⟨by omega, by omega, by omega⟩ ⟨by decide, by decide, by decide⟩ dX12_works_15 ?_
  refine pm_putf hC 90 fl_X12_305 rfl rfl rfl (by decide) rfl trivial dX12_works_16 ?_
  refine pm_aload_n hC 1 (by decide) dX12_works_19 rfl ?_
  refine pm_iload_n hC 2 dX12_works_20 rfl ?_
  refine pm_bipush (v := 10) hC dX12_works_21 (by decide) ?_
  refine pm_irem hC ⟨by omega, by omega, by omega⟩ ⟨by decide, by decide, by decide⟩ dX12_works_23 ?_
  refine pm_putf hC 90 fl_X12_308 rfl rfl rfl (by decide) rfl trivial dX12_works_24 ?_
  refine pm_aload_n hC 1 (by decide) dX12_works_27 rfl ?_
  refine pm_iconst (v := 1) hC dX12_works_28 ?_
  refine pm_aload_n hC 1 (by decide) dX12_works_29 rfl ?_
  have e4 : V0 90 18 = 98 := hV0.one 90 18 (by decide) (by decide) rfl
  refine pm_getf (v := 98) hC 90 fl_X12_34 rfl rfl (by decide) rfl e4 dX12_works_30 ?_
  refine pm_iconst (v := 0) hC dX12_works_33 ?_
  obtain ⟨y5, e6⟩ : ∃ y, V0 98 (0 : Int).toNat = y := ⟨_, rfl⟩
  have b7 := hV0.get 98 (0 : Int).toNat (lo := 1) (hi := 60) (t := 0) (by decide) (show _ < 4 by omega) rfl
  rw [e6] at b7
  refine pm_iaload (len := 4) (v := y5) hC 98 rfl rfl (by decide) ⟨by decide, by decide⟩ (by decide) e6 dX12_works_34 ?_
  refine pm_aload_n hC 1 (by decide) dX12_works_35 rfl ?_
  have e8 : V0 90 24 = 100 := hV0.one 90 24 (by decide) (by decide) rfl
  refine pm_getf (v := 100) hC 90 fl_X12_40 rfl rfl (by decide) rfl e8 dX12_works_36 ?_
  refine pm_iload hC 0 dX12_works_39 rfl ?_
  obtain ⟨y9, e10⟩ : ∃ y, V0 100 ((4 * (a1 / 100)) : Int).toNat = y := ⟨_, rfl⟩
  have b11 := hV0.get 100 ((4 * (a1 / 100)) : Int).toNat (lo := (-30)) (hi := 30) (t := 0) (by decide) (show _ < 40 by omega) ((pm_qe_r (tb := pm_qB) (k := 100) (i := ((4 * (a1 / 100)) : Int).toNat) (m := 4) (r := 0) (l := [(-30, 30, 0), (-30, 30, 0), (0, 16, 0), (0, 3, 0)]) rfl rfl (by omega)).trans rfl)
  rw [e10] at b11
  refine pm_iaload (len := 40) (v := y9) hC 100 rfl rfl (by decide) ⟨by omega, by omega⟩ (by decide) e10 dX12_works_41 ?_
  refine pm_iadd hC dX12_works_42 ?_
  refine pm_aload_n hC 1 (by decide) dX12_works_43 rfl ?_
  refine pm_getf (v := 98) hC 90 fl_X12_34 rfl rfl (by decide) rfl e4 dX12_works_44 ?_
  refine pm_iconst (v := 1) hC dX12_works_47 ?_
  obtain ⟨y12, e13⟩ : ∃ y, V0 98 (1 : Int).toNat = y := ⟨_, rfl⟩
  have b14 := hV0.get 98 (1 : Int).toNat (lo := 0) (hi := 9) (t := 0) (by decide) (show _ < 4 by omega) rfl
  rw [e13] at b14
  refine pm_iaload (len := 4) (v := y12) hC 98 rfl rfl (by decide) ⟨by decide, by decide⟩ (by decide) e13 dX12_works_48 ?_
  refine pm_iload_n hC 3 dX12_works_49 rfl ?_
  refine pm_bipush (v := 10) hC dX12_works_50 (by decide) ?_
  refine pm_idiv hC ⟨by omega, by omega, by omega⟩ ⟨by decide, by decide, by decide⟩ dX12_works_52 ?_
  refine pm_imul hC dX12_works_53 ?_
  have b16 : 0 ≤ (y12 * (a2 / 10)) ∧ (y12 * (a2 / 10)) ≤ 81 := pm_mulb (by omega) (by omega) (show y12 ≤ 9 by omega) (show (a2 / 10) ≤ 9 by omega) (by decide)
  generalize (y12 * (a2 / 10)) = y15 at b16 ⊢
  refine pm_iadd hC dX12_works_54 ?_
  refine pm_mmax hC 7047 4012 1018 4013 ⟨by decide, by decide⟩ ⟨by omega, by omega⟩ (by decide) wL_X12_311 wS_mmax wI_math wC_mmax (Nat.le_of_ble_eq_true rfl) dX12_works_55 (fun y17 b18 => ?_)
  replace b18 : 1 ≤ y17 ∧ y17 ≤ 171 ∧ 1 ≤ y17 ∧ ((y5 + y9) + y15) ≤ y17 := ⟨by omega, by omega, b18.1, b18.2.1⟩
  refine pm_putf hC 90 fl_X12_317 rfl rfl rfl (by decide) rfl trivial dX12_works_58 ?_
  refine pm_aload_n hC 1 (by decide) dX12_works_61 rfl ?_
  refine pm_iconst (v := 1) hC dX12_works_62 ?_
  refine pm_aload_n hC 1 (by decide) dX12_works_63 rfl ?_
  refine pm_getf (v := 98) hC 90 fl_X12_34 rfl rfl (by decide) rfl e4 dX12_works_64 ?_
  refine pm_iconst (v := 2) hC dX12_works_67 ?_
  obtain ⟨y19, e20⟩ : ∃ y, V0 98 (2 : Int).toNat = y := ⟨_, rfl⟩
  have b21 := hV0.get 98 (2 : Int).toNat (lo := 1) (hi := 60) (t := 0) (by decide) (show _ < 4 by omega) rfl
  rw [e20] at b21
  refine pm_iaload (len := 4) (v := y19) hC 98 rfl rfl (by decide) ⟨by decide, by decide⟩ (by decide) e20 dX12_works_68 ?_
  refine pm_aload_n hC 1 (by decide) dX12_works_69 rfl ?_
  refine pm_getf (v := 100) hC 90 fl_X12_40 rfl rfl (by decide) rfl e8 dX12_works_70 ?_
  refine pm_iload hC 0 dX12_works_73 rfl ?_
  refine pm_iconst (v := 1) hC dX12_works_75 ?_
  refine pm_iadd hC dX12_works_76 ?_
  obtain ⟨y22, e23⟩ : ∃ y, V0 100 (((4 * (a1 / 100)) + 1) : Int).toNat = y := ⟨_, rfl⟩
  have b24 := hV0.get 100 (((4 * (a1 / 100)) + 1) : Int).toNat (lo := (-30)) (hi := 30) (t := 0) (by decide) (show _ < 40 by omega) ((pm_qe_r (tb := pm_qB) (k := 100) (i := (((4 * (a1 / 100)) + 1) : Int).toNat) (m := 4) (r := 1) (l := [(-30, 30, 0), (-30, 30, 0), (0, 16, 0), (0, 3, 0)]) rfl rfl (by omega)).trans rfl)
  rw [e23] at b24
  refine pm_iaload (len := 40) (v := y22) hC 100 rfl rfl (by decide) ⟨by omega, by omega⟩ (by decide) e23 dX12_works_77 ?_
  refine pm_iadd hC dX12_works_78 ?_
  refine pm_aload_n hC 1 (by decide) dX12_works_79 rfl ?_
  refine pm_getf (v := 98) hC 90 fl_X12_34 rfl rfl (by decide) rfl e4 dX12_works_80 ?_
  refine pm_iconst (v := 3) hC dX12_works_83 ?_
  obtain ⟨y25, e26⟩ : ∃ y, V0 98 (3 : Int).toNat = y := ⟨_, rfl⟩
  have b27 := hV0.get 98 (3 : Int).toNat (lo := 0) (hi := 9) (t := 0) (by decide) (show _ < 4 by omega) rfl
  rw [e26] at b27
  refine pm_iaload (len := 4) (v := y25) hC 98 rfl rfl (by decide) ⟨by decide, by decide⟩ (by decide) e26 dX12_works_84 ?_
  refine pm_iload_n hC 3 dX12_works_85 rfl ?_
  refine pm_bipush (v := 10) hC dX12_works_86 (by decide) ?_
  refine pm_irem hC ⟨by omega, by omega, by omega⟩ ⟨by decide, by decide, by decide⟩ dX12_works_88 ?_
  refine pm_imul hC dX12_works_89 ?_
  have b29 : 0 ≤ (y25 * (a2 % 10)) ∧ (y25 * (a2 % 10)) ≤ 81 := pm_mulb (by omega) (by omega) (show y25 ≤ 9 by omega) (show (a2 % 10) ≤ 9 by omega) (by decide)
  generalize (y25 * (a2 % 10)) = y28 at b29 ⊢
  refine pm_iadd hC dX12_works_90 ?_
  refine pm_mmax hC 7047 4012 1018 4013 ⟨by decide, by decide⟩ ⟨by omega, by omega⟩ (by decide) wL_X12_311 wS_mmax wI_math wC_mmax (Nat.le_of_ble_eq_true rfl) dX12_works_91 (fun y30 b31 => ?_)
  replace b31 : 1 ≤ y30 ∧ y30 ≤ 171 ∧ 1 ≤ y30 ∧ ((y19 + y22) + y28) ≤ y30 := ⟨by omega, by omega, b31.1, b31.2.1⟩
  refine pm_putf hC 90 fl_X12_320 rfl rfl rfl (by decide) rfl trivial dX12_works_94 ?_
  refine pm_iconst (v := 1) hC dX12_works_97 ?_
  refine pm_aload_n hC 1 (by decide) dX12_works_98 rfl ?_
  obtain ⟨y32, e33⟩ : ∃ y, V0 90 20 = y := ⟨_, rfl⟩
  have b34 := hV0.get 90 20 (lo := 1) (hi := 99) (by decide) (by decide) rfl
  rw [e33] at b34
  refine pm_getf (v := y32) hC 90 fl_X12_229 rfl rfl (by decide) rfl e33 dX12_works_99 ?_
  refine pm_iconst (v := 2) hC dX12_works_102 ?_
  refine pm_idiv hC ⟨by omega, by omega, by omega⟩ ⟨by decide, by decide, by decide⟩ dX12_works_103 ?_
  refine pm_mmax hC 7047 4012 1018 4013 ⟨by decide, by decide⟩ ⟨by omega, by omega⟩ (by decide) wL_X12_311 wS_mmax wI_math wC_mmax (Nat.le_of_ble_eq_true rfl) dX12_works_104 (fun y35 b36 => ?_)
  replace b36 : 1 ≤ y35 ∧ y35 ≤ 49 ∧ 1 ≤ y35 ∧ (y32 / 2) ≤ y35 := ⟨by omega, by omega, b36.1, b36.2.1⟩
  refine pm_istore (lv' := [(5, (0, y35)), (4, (0, (4 * (a1 / 100)))), (0, (3, 90)), (1, (0, a1)), (2, (0, a2)), (3, (0, a3))]) hC dX12_works_107 (by decide) rfl ?_
  refine pm_aload_n hC 2 (by decide) dX12_works_109 rfl ?_
  refine pm_iconst (v := 0) hC dX12_works_110 ?_
  refine pm_aload_n hC 2 (by decide) dX12_works_111 rfl ?_
  refine pm_getf (v := 100) hC 90 fl_X12_40 rfl rfl (by decide) rfl e8 dX12_works_112 ?_
  refine pm_iload hC 1 dX12_works_115 rfl ?_
  refine pm_iconst (v := 2) hC dX12_works_117 ?_
  refine pm_iadd hC dX12_works_118 ?_
  obtain ⟨y37, e38⟩ : ∃ y, V0 100 (((4 * (a1 / 100)) + 2) : Int).toNat = y := ⟨_, rfl⟩
  have b39 := hV0.get 100 (((4 * (a1 / 100)) + 2) : Int).toNat (lo := 0) (hi := 16) (t := 0) (by decide) (show _ < 40 by omega) ((pm_qe_r (tb := pm_qB) (k := 100) (i := (((4 * (a1 / 100)) + 2) : Int).toNat) (m := 4) (r := 2) (l := [(-30, 30, 0), (-30, 30, 0), (0, 16, 0), (0, 3, 0)]) rfl rfl (by omega)).trans rfl)
  rw [e38] at b39
  refine pm_iaload (len := 40) (v := y37) hC 100 rfl rfl (by decide) ⟨by omega, by omega⟩ (by decide) e38 dX12_works_119 ?_
  refine pm_iload_n hC 5 dX12_works_120 rfl ?_
  refine pm_if_lt (tgt := 133) hC ⟨by omega, by omega⟩ dX12_works_121 (by decide) (fun c40 => ?_) (fun c40 => ?_)
  · skip
    refine pm_iload_n hC 5 dX12_works_133 rfl ?_
    refine pm_ineg hC dX12_works_134 ?_
    refine pm_iload hC 0 dX12_works_135 rfl ?_
    refine pm_idiv hC ⟨by omega, by omega, by omega⟩ ⟨by omega, by omega, by omega⟩ dX12_works_137 ?_
    have b42 := pm_divb (x := (-a3)) (y := y35) (by omega) (by omega)
    generalize ((-a3) / y35) = y41 at b42 ⊢
    refine pm_isub hC dX12_works_138 ?_
    refine pm_mmax hC 7047 4012 1018 4013 ⟨by decide, by decide⟩ ⟨by omega, by omega⟩ (by decide) wL_X12_311 wS_mmax wI_math wC_mmax (Nat.le_of_ble_eq_true rfl) dX12_works_139 (fun y43 b44 => ?_)
    replace b44 : 0 ≤ y43 ∧ y43 ≤ 16 ∧ 0 ≤ y43 ∧ (y37 - y41) ≤ y43 := ⟨by omega, by omega, b44.1, b44.2.1⟩
    refine pm_putf hC 90 fl_X12_323 rfl rfl rfl (by decide) rfl trivial dX12_works_142 ?_
    refine pm_aload_n hC 2 (by decide) dX12_works_145 rfl ?_
    refine pm_lconst (x := 0) hC dX12_works_146 rfl ?_
    refine pm_putf hC 90 fl_X12_326 rfl rfl rfl (by decide) rfl trivial dX12_works_147 ?_
    refine pm_aload_n hC 2 (by decide) dX12_works_150 rfl ?_
    refine pm_lconst (x := 0) hC dX12_works_151 rfl ?_
    refine pm_putf hC 90 fl_X12_329 rfl rfl rfl (by decide) rfl trivial dX12_works_152 ?_
    refine pm_aload_n hC 2 (by decide) dX12_works_155 rfl ?_
    refine pm_lconst (x := 0) hC dX12_works_156 rfl ?_
    refine pm_putf hC 90 fl_X12_332 rfl rfl rfl (by decide) rfl trivial dX12_works_157 ?_
    refine pm_iconst (v := 0) hC dX12_works_160 ?_
    refine pm_istore (lv' := [(6, (0, 0)), (5, (0, y35)), (4, (0, (4 * (a1 / 100)))), (0, (3, 90)), (1, (0, a1)), (2, (0, a2)), (3, (0, a3))]) hC dX12_works_161 (by decide) rfl ?_
    have hV47 := ((((((((hV0.put 90 48 (x := ((a1 / 10) % 10)) (lo := 0) (hi := 8) rfl ⟨by omega, by omega⟩).put 90 49 (x := (a1 % 10)) (lo := 0) (hi := 8) rfl ⟨by omega, by omega⟩).put 90 42 (x := y17) (lo := 0) (hi := 171) rfl ⟨by omega, by omega⟩).put 90 43 (x := y30) (lo := 0) (hi := 171) rfl ⟨by omega, by omega⟩).put 90 47 (x := y43) (lo := 0) (hi := 16) rfl ⟨by omega, by omega⟩).put 90 44 (x := 0) (lo := 0) (hi := 13851) rfl ⟨by decide, by decide⟩).put 90 45 (x := 0) (lo := 0) (hi := 1539) rfl ⟨by decide, by decide⟩).put 90 46 (x := 0) (lo := 0) (hi := 2368521) rfl ⟨by decide, by decide⟩)
    have hF48 := (((((((((pm_fs.rf (cs := [110, 111]) (fs := [42, 43, 44, 45, 46, 47, 48, 49]) (V := V0)).upf 48 ((a1 / 10) % 10) rfl).upf 49 (a1 % 10) rfl).upf 42 y17 rfl).upf 43 y30 rfl).upf 47 y43 rfl).upf 44 0 rfl).upf 45 0 rfl).upf 46 0 rfl)
    obtain ⟨V45, hv46⟩ : ∃ V, V = (pm_up (pm_up (pm_up (pm_up (pm_up (pm_up (pm_up (pm_up V0 90 48 ((a1 / 10) % 10)) 90 49 (a1 % 10)) 90 42 y17) 90 43 y30) 90 47 y43) 90 44 0) 90 45 0) 90 46 0) := ⟨_, rfl⟩
    rw [← hv46] at hV47 hF48
    rw [← hv46]
    have e49 : V45 90 16 = y1 := by rw [hv46]; exact e2
    have e50 : V45 90 18 = 98 := by rw [hv46]; exact e4
    have e51 : V45 90 24 = 100 := by rw [hv46]; exact e8
    have e52 : V45 90 20 = y32 := by rw [hv46]; exact e33
    have e53 : V45 90 48 = ((a1 / 10) % 10) := by rw [hv46]; rfl
    have e54 : V45 90 49 = (a1 % 10) := by rw [hv46]; rfl
    have e55 : V45 90 42 = y17 := by rw [hv46]; rfl
    have e56 : V45 90 43 = y30 := by rw [hv46]; rfl
    have e57 : V45 90 47 = y43 := by rw [hv46]; rfl
    have e58 : V45 90 44 = 0 := by rw [hv46]; rfl
    have e59 : V45 90 45 = 0 := by rw [hv46]; rfl
    have e60 : V45 90 46 = 0 := by rw [hv46]; rfl
    have hp61 : pm_h1 V45 := by rw [hv46]; exact (pm_h1.fr hn_pm_h1 rfl rfl)
    have L84 : ∀ (N86 : Nat) (x62 : Int) (V64 : pm_M), (0 ≤ x62 ∧ x62 ≤ 9) → pm_oq pm_qB V64 → pm_fs [110, 111] [42, 43, 44, 45, 46, 47, 48, 49] V0 V64 → V64 90 16 = y1 → V64 90 18 = 98 → V64 90 24 = 100 → V64 90 20 = y32 → V64 90 48 = ((a1 / 10) % 10) → V64 90 49 = (a1 % 10) → V64 90 42 = y17 → V64 90 43 = y30 → V64 90 47 = y43 → pm_h1 V64 → (V64 90 44 ≤ 1539 * x62) → (V64 90 45 ≤ 171 * x62) → (V64 90 46 ≤ 263169 * x62) → (((a1 / 10) % 10) < x62 → 1 ≤ V64 110 (((a1 / 10) % 10)).toNat) → ((a1 % 10) < x62 → 1 ≤ V64 111 ((a1 % 10)).toNat) → (1 ≤ V64 90 46 → ∃ q : Nat, (q : Int) < x62 ∧ 1 ≤ V64 110 q ∧ 1 ≤ V64 111 q) → (x62 ≤ V64 90 16) → (Int.toNat (9 - x62)) = N86 → pm_J X 163 [(0, (3, 90)), (1, (0, a1)), (2, (0, a2)), (3, (0, a3)), (4, (0, (4 * (a1 / 100)))), (5, (0, y35)), (6, (0, x62))] [] 118 V64 := by
      intro N86
      induction N86 using Nat.strongRecOn with
      | _ N86 ih87 =>
      intro x62 V64 b63 hV65 hF66 e67 e68 e69 e70 e71 e72 e73 e74 e75 hp76 hm77 hm78 hm79 hx80 hx81 hx82 hx83 hm85
      refine pm_iload hC 6 dX12_works_163 rfl ?_
      refine pm_aload_n hC 0 (by decide) dX12_works_165 rfl ?_
      refine pm_getf (v := y1) hC 90 fl_X12_220 rfl rfl (by decide) rfl e67 dX12_works_166 ?_
      refine pm_icmp_ge (tgt := 337) hC ⟨by omega, by omega⟩ ⟨by omega, by omega⟩ dX12_works_169 (by decide) (fun c88 => ?_) (fun c88 => ?_)
      · skip
        have q89 : 1 ≤ V64 90 42 ∧ V64 90 42 ≤ 171 := by (have e : V64 90 42 = y17 := e73); rw [e]; exact ⟨by omega, by omega⟩
        have q90 : 1 ≤ V64 90 43 ∧ V64 90 43 ≤ 171 := by (have e : V64 90 43 = y30 := e74); rw [e]; exact ⟨by omega, by omega⟩
        exact pm_vret hC hR ⟨rfl, hV65, hF66, q89, q90, (by unfold pm_w1; rw [e71, e72, e67]; exact ⟨by omega, by omega, by omega, by omega, hx80 (by omega), hx81 (by omega)⟩), (by have hle := hx83; rw [e67] at hle; unfold pm_w3; rw [e67]; intro h; obtain ⟨q, q1, q2, q3⟩ := hx82 h; exact ⟨q, by omega, q2, q3⟩)⟩ dX12_works_337
      · skip
        obtain ⟨y91, e92⟩ : ∃ y, V64 90 44 = y := ⟨_, rfl⟩
        have b93 := hV65.get 90 44 (lo := 0) (hi := 13851) (by decide) (by decide) rfl
        rw [e92] at b93
        obtain ⟨y94, e95⟩ : ∃ y, V64 90 45 = y := ⟨_, rfl⟩
        have b96 := hV65.get 90 45 (lo := 0) (hi := 1539) (by decide) (by decide) rfl
        rw [e95] at b96
        obtain ⟨y97, e98⟩ : ∃ y, V64 90 46 = y := ⟨_, rfl⟩
        have b99 := hV65.get 90 46 (lo := 0) (hi := 2368521) (by decide) (by decide) rfl
        rw [e98] at b99
        refine pm_aload_n hC 0 (by decide) dX12_works_172 rfl ?_
        have e100 : V64 90 40 = 110 := hV65.one 90 40 (by decide) (by decide) rfl
        refine pm_getf (v := 110) hC 90 fl_X12_70 rfl rfl (by decide) rfl e100 dX12_works_173 ?_
        refine pm_iload hC 6 dX12_works_176 rfl ?_
        refine pm_iconst (v := 0) hC dX12_works_178 ?_
        refine pm_aload_n hC 0 (by decide) dX12_works_179 rfl ?_
        have e101 : V64 90 17 = 97 := hV65.one 90 17 (by decide) (by decide) rfl
        refine pm_getf (v := 97) hC 90 fl_X12_31 rfl rfl (by decide) rfl e101 dX12_works_180 ?_
        refine pm_iconst (v := 3) hC dX12_works_183 ?_
        refine pm_iload hC 6 dX12_works_184 rfl ?_
        refine pm_imul hC dX12_works_186 ?_
        refine pm_iconst (v := 2) hC dX12_works_187 ?_
        refine pm_iadd hC dX12_works_188 ?_
        obtain ⟨y102, e103⟩ : ∃ y, V64 97 (((3 * x62) + 2) : Int).toNat = y := ⟨_, rfl⟩
        have b104 := hV65.get 97 (((3 * x62) + 2) : Int).toNat (lo := 0) (hi := 9) (t := 0) (by decide) (show _ < 27 by omega) ((pm_qe_r (tb := pm_qB) (k := 97) (i := (((3 * x62) + 2) : Int).toNat) (m := 3) (r := 2) (l := [(0, 99, 0), (0, 99, 0), (0, 9, 0)]) rfl rfl (by omega)).trans rfl)
        rw [e103] at b104
        refine pm_iaload (len := 27) (v := y102) hC 97 rfl rfl (by decide) ⟨by omega, by omega⟩ (by decide) e103 dX12_works_189 ?_
        refine pm_aload_n hC 0 (by decide) dX12_works_190 rfl ?_
        refine pm_getf (v := y17) hC 90 fl_X12_317 rfl rfl (by decide) rfl e73 dX12_works_191 ?_
        refine pm_aload_n hC 0 (by decide) dX12_works_194 rfl ?_
        refine pm_iload hC 6 dX12_works_195 rfl ?_
        refine pm_callV (ci := 12) (as := [(0, x62)]) (st := [(0, y17), (0, y102), (0, 0), (0, x62), (3, 110)]) hC 90 (B_X12_x x62 ⟨by omega, by omega⟩) lm_X12_335 li_X12_x (by decide) (by decide) rfl rfl rfl (by decide) rfl rfl (Nat.le_of_ble_eq_true rfl) ⟨Nat.le_refl _, Or.inl rfl⟩ dX12_works_197 ⟨rfl, hV65⟩ (fun r105 V106 hp107 => ?_)
        obtain ⟨y108, rfl, b109, rfl⟩ := hp107
        change pm_J X 200 [(0, (3, 90)), (1, (0, a1)), (2, (0, a2)), (3, (0, a3)), (4, (0, (4 * (a1 / 100)))), (5, (0, y35)), (6, (0, x62))] [(0, y108), (0, y17), (0, y102), (0, 0), (0, x62), (3, 110)] 118 V64
        refine pm_aload_n hC 0 (by decide) dX12_works_200 rfl ?_
        refine pm_aload_n hC 0 (by decide) dX12_works_201 rfl ?_
        refine pm_getf (v := ((a1 / 10) % 10)) hC 90 fl_X12_305 rfl rfl (by decide) rfl e71 dX12_works_202 ?_
        refine pm_callV (ci := 12) (as := [(0, ((a1 / 10) % 10))]) (st := [(0, y108), (0, y17), (0, y102), (0, 0), (0, x62), (3, 110)]) hC 90 (B_X12_x ((a1 / 10) % 10) ⟨by omega, by omega⟩) lm_X12_335 li_X12_x (by decide) (by decide) rfl rfl rfl (by decide) rfl rfl (Nat.le_of_ble_eq_true rfl) ⟨Nat.le_refl _, Or.inl rfl⟩ dX12_works_205 ⟨rfl, hV65⟩ (fun r110 V111 hp112 => ?_)
        obtain ⟨y113, rfl, b114, rfl⟩ := hp112
        change pm_J X 208 [(0, (3, 90)), (1, (0, a1)), (2, (0, a2)), (3, (0, a3)), (4, (0, (4 * (a1 / 100)))), (5, (0, y35)), (6, (0, x62))] [(0, y113), (0, y108), (0, y17), (0, y102), (0, 0), (0, x62), (3, 110)] 118 V64
        refine pm_isub hC dX12_works_208 ?_
        refine pm_callS (as := [(0, (y108 - y113))]) (st := [(0, y17), (0, y102), (0, 0), (0, x62), (3, 110)]) hC (B_X12_far (y108 - y113) ⟨by omega, by omega⟩) lm_X12_338 ls_X12_far (by decide) (by decide) rfl rfl (Nat.le_of_ble_eq_true rfl) ⟨Nat.le_refl _, Or.inl rfl⟩ dX12_works_209 ⟨rfl, hV65⟩ (fun r115 V116 hp117 => ?_)
        obtain ⟨y118, rfl, b119, rfl⟩ := hp117
        change pm_J X 212 [(0, (3, 90)), (1, (0, a1)), (2, (0, a2)), (3, (0, a3)), (4, (0, (4 * (a1 / 100)))), (5, (0, y35)), (6, (0, x62))] [(0, y118), (0, y17), (0, y102), (0, 0), (0, x62), (3, 110)] 118 V64
        refine pm_isub hC dX12_works_212 ?_
        refine pm_aload_n hC 0 (by decide) dX12_works_213 rfl ?_
        refine pm_iload hC 6 dX12_works_214 rfl ?_
        refine pm_callV (ci := 12) (as := [(0, x62)]) (st := [(0, (y17 - y118)), (0, y102), (0, 0), (0, x62), (3, 110)]) hC 90 (B_X12_y x62 ⟨by omega, by omega⟩) lm_X12_341 li_X12_y (by decide) (by decide) rfl rfl rfl (by decide) rfl rfl (Nat.le_of_ble_eq_true rfl) ⟨Nat.le_refl _, Or.inl rfl⟩ dX12_works_216 ⟨rfl, hV65⟩ (fun r120 V121 hp122 => ?_)
        obtain ⟨y123, rfl, b124, rfl⟩ := hp122
        change pm_J X 219 [(0, (3, 90)), (1, (0, a1)), (2, (0, a2)), (3, (0, a3)), (4, (0, (4 * (a1 / 100)))), (5, (0, y35)), (6, (0, x62))] [(0, y123), (0, (y17 - y118)), (0, y102), (0, 0), (0, x62), (3, 110)] 118 V64
        refine pm_aload_n hC 0 (by decide) dX12_works_219 rfl ?_
        refine pm_aload_n hC 0 (by decide) dX12_works_220 rfl ?_
        refine pm_getf (v := ((a1 / 10) % 10)) hC 90 fl_X12_305 rfl rfl (by decide) rfl e71 dX12_works_221 ?_
        refine pm_callV (ci := 12) (as := [(0, ((a1 / 10) % 10))]) (st := [(0, y123), (0, (y17 - y118)), (0, y102), (0, 0), (0, x62), (3, 110)]) hC 90 (B_X12_y ((a1 / 10) % 10) ⟨by omega, by omega⟩) lm_X12_341 li_X12_y (by decide) (by decide) rfl rfl rfl (by decide) rfl rfl (Nat.le_of_ble_eq_true rfl) ⟨Nat.le_refl _, Or.inl rfl⟩ dX12_works_224 ⟨rfl, hV65⟩ (fun r125 V126 hp127 => ?_)
        obtain ⟨y128, rfl, b129, rfl⟩ := hp127
        change pm_J X 227 [(0, (3, 90)), (1, (0, a1)), (2, (0, a2)), (3, (0, a3)), (4, (0, (4 * (a1 / 100)))), (5, (0, y35)), (6, (0, x62))] [(0, y128), (0, y123), (0, (y17 - y118)), (0, y102), (0, 0), (0, x62), (3, 110)] 118 V64
        refine pm_isub hC dX12_works_227 ?_
        refine pm_callS (as := [(0, (y123 - y128))]) (st := [(0, (y17 - y118)), (0, y102), (0, 0), (0, x62), (3, 110)]) hC (B_X12_far (y123 - y128) ⟨by omega, by omega⟩) lm_X12_338 ls_X12_far (by decide) (by decide) rfl rfl (Nat.le_of_ble_eq_true rfl) ⟨Nat.le_refl _, Or.inl rfl⟩ dX12_works_228 ⟨rfl, hV65⟩ (fun r130 V131 hp132 => ?_)
        obtain ⟨y133, rfl, b134, rfl⟩ := hp132
        change pm_J X 231 [(0, (3, 90)), (1, (0, a1)), (2, (0, a2)), (3, (0, a3)), (4, (0, (4 * (a1 / 100)))), (5, (0, y35)), (6, (0, x62))] [(0, y133), (0, (y17 - y118)), (0, y102), (0, 0), (0, x62), (3, 110)] 118 V64
        refine pm_isub hC dX12_works_231 ?_
        refine pm_imul hC dX12_works_232 ?_
        have b136 : (-1773) ≤ (y102 * ((y17 - y118) - y133)) ∧ (y102 * ((y17 - y118) - y133)) ≤ 1539 := pm_mulg (a := 0) (b := 9) (c := (-197)) (d := 171) ⟨by omega, by omega⟩ ⟨by omega, by omega⟩ (by decide) (by decide)
        generalize hey135 : (y102 * ((y17 - y118) - y133)) = y135 at b136 ⊢
        refine pm_mmax hC 7047 4012 1018 4013 ⟨by decide, by decide⟩ ⟨by omega, by omega⟩ (by decide) wL_X12_311 wS_mmax wI_math wC_mmax (Nat.le_of_ble_eq_true rfl) dX12_works_233 (fun y137 b138 => ?_)
        replace b138 : 0 ≤ y137 ∧ y137 ≤ 1539 ∧ 0 ≤ y137 ∧ y135 ≤ y137 := ⟨by omega, by omega, b138.1, b138.2.1⟩
        have hv139 : ((a1 / 10) % 10) = x62 → 1 ≤ y137 := by
          intro hq
          have q1 : V64 97 (3 * x62).toNat = V64 97 (3 * ((a1 / 10) % 10)).toNat := by rw [hq]
          have q2 : V64 97 (3 * x62 + 1).toNat = V64 97 (3 * ((a1 / 10) % 10) + 1).toNat := by rw [hq]
          have hh := hp76 x62 (by omega) (by omega)
          have hfz0 : y118 = 0 := pm_far0 b119 (by omega)
          have hfz1 : y133 = 0 := pm_far0 b134 (by omega)
          have hp : 1 ≤ y102 * ((y17 - y118) - y133) := pm_mul1 (by omega) (by omega)
          omega
        refine pm_iastore (len := 9) hC 110 rfl rfl (by decide) ⟨by omega, by omega⟩ (by decide) dX12_works_236 ?_
        refine pm_aload_n hC 0 (by decide) dX12_works_237 rfl ?_
        have e140 : V64 90 41 = 111 := hV65.one 90 41 (by decide) (by decide) rfl
        refine pm_getf (v := 111) hC 90 fl_X12_73 rfl rfl (by decide) rfl e140 dX12_works_238 ?_
        refine pm_iload hC 6 dX12_works_241 rfl ?_
        refine pm_iconst (v := 0) hC dX12_works_243 ?_
        refine pm_aload_n hC 0 (by decide) dX12_works_244 rfl ?_
        refine pm_getf (v := y30) hC 90 fl_X12_320 rfl rfl (by decide) rfl e74 dX12_works_245 ?_
        refine pm_aload_n hC 0 (by decide) dX12_works_248 rfl ?_
        refine pm_iload hC 6 dX12_works_249 rfl ?_
        refine pm_callV (ci := 12) (as := [(0, x62)]) (st := [(0, y30), (0, 0), (0, x62), (3, 111)]) hC 90 (B_X12_x x62 ⟨by omega, by omega⟩) lm_X12_335 li_X12_x (by decide) (by decide) rfl rfl rfl (by decide) rfl rfl (Nat.le_of_ble_eq_true rfl) ⟨Nat.le_refl _, Or.inl rfl⟩ dX12_works_251 ⟨rfl, (hV65.put 110 (x62 : Int).toNat (x := y137) (lo := 0) (hi := 1539) rfl ⟨by omega, by omega⟩)⟩ (fun r141 V142 hp143 => ?_)
        obtain ⟨y144, rfl, b145, rfl⟩ := hp143
        change pm_J X 254 [(0, (3, 90)), (1, (0, a1)), (2, (0, a2)), (3, (0, a3)), (4, (0, (4 * (a1 / 100)))), (5, (0, y35)), (6, (0, x62))] [(0, y144), (0, y30), (0, 0), (0, x62), (3, 111)] 118 (pm_up V64 110 (x62 : Int).toNat y137)
        refine pm_aload_n hC 0 (by decide) dX12_works_254 rfl ?_
        refine pm_aload_n hC 0 (by decide) dX12_works_255 rfl ?_
        refine pm_getf (v := (a1 % 10)) hC 90 fl_X12_308 rfl rfl (by decide) rfl e72 dX12_works_256 ?_
        refine pm_callV (ci := 12) (as := [(0, (a1 % 10))]) (st := [(0, y144), (0, y30), (0, 0), (0, x62), (3, 111)]) hC 90 (B_X12_x (a1 % 10) ⟨by omega, by omega⟩) lm_X12_335 li_X12_x (by decide) (by decide) rfl rfl rfl (by decide) rfl rfl (Nat.le_of_ble_eq_true rfl) ⟨Nat.le_refl _, Or.inl rfl⟩ dX12_works_259 ⟨rfl, (hV65.put 110 (x62 : Int).toNat (x := y137) (lo := 0) (hi := 1539) rfl ⟨by omega, by omega⟩)⟩ (fun r146 V147 hp148 => ?_)
        obtain ⟨y149, rfl, b150, rfl⟩ := hp148
        change pm_J X 262 [(0, (3, 90)), (1, (0, a1)), (2, (0, a2)), (3, (0, a3)), (4, (0, (4 * (a1 / 100)))), (5, (0, y35)), (6, (0, x62))] [(0, y149), (0, y144), (0, y30), (0, 0), (0, x62), (3, 111)] 118 (pm_up V64 110 (x62 : Int).toNat y137)
        refine pm_isub hC dX12_works_262 ?_
        refine pm_callS (as := [(0, (y144 - y149))]) (st := [(0, y30), (0, 0), (0, x62), (3, 111)]) hC (B_X12_far (y144 - y149) ⟨by omega, by omega⟩) lm_X12_338 ls_X12_far (by decide) (by decide) rfl rfl (Nat.le_of_ble_eq_true rfl) ⟨Nat.le_refl _, Or.inl rfl⟩ dX12_works_263 ⟨rfl, (hV65.put 110 (x62 : Int).toNat (x := y137) (lo := 0) (hi := 1539) rfl ⟨by omega, by omega⟩)⟩ (fun r151 V152 hp153 => ?_)
        obtain ⟨y154, rfl, b155, rfl⟩ := hp153
        change pm_J X 266 [(0, (3, 90)), (1, (0, a1)), (2, (0, a2)), (3, (0, a3)), (4, (0, (4 * (a1 / 100)))), (5, (0, y35)), (6, (0, x62))] [(0, y154), (0, y30), (0, 0), (0, x62), (3, 111)] 118 (pm_up V64 110 (x62 : Int).toNat y137)
        refine pm_isub hC dX12_works_266 ?_
        refine pm_mmax hC 7047 4012 1018 4013 ⟨by decide, by decide⟩ ⟨by omega, by omega⟩ (by decide) wL_X12_311 wS_mmax wI_math wC_mmax (Nat.le_of_ble_eq_true rfl) dX12_works_267 (fun y156 b157 => ?_)
        replace b157 : 0 ≤ y156 ∧ y156 ≤ 171 ∧ 0 ≤ y156 ∧ (y30 - y154) ≤ y156 := ⟨by omega, by omega, b157.1, b157.2.1⟩
        have hv158 : (a1 % 10) = x62 → 1 ≤ y156 := by
          intro hq
          have q1 : (pm_up V64 110 (x62 : Int).toNat y137) 97 (3 * x62).toNat = (pm_up V64 110 (x62 : Int).toNat y137) 97 (3 * (a1 % 10)).toNat := by rw [hq]
          have hfz0 : y154 = 0 := pm_far0 b155 (by omega)
          omega
        refine pm_iastore (len := 9) hC 111 rfl rfl (by decide) ⟨by omega, by omega⟩ (by decide) dX12_works_270 ?_
        refine pm_aload_n hC 0 (by decide) dX12_works_271 rfl ?_
        refine pm_dup hC rfl dX12_works_272 ?_
        refine pm_getf (v := y91) hC 90 fl_X12_326 rfl rfl (by decide) rfl e92 dX12_works_273 ?_
        refine pm_aload_n hC 0 (by decide) dX12_works_276 rfl ?_
        refine pm_getf (v := 110) hC 90 fl_X12_70 rfl rfl (by decide) rfl e100 dX12_works_277 ?_
        refine pm_iload hC 6 dX12_works_280 rfl ?_
        have hV161 := ((hV65.put 110 (x62 : Int).toNat (x := y137) (lo := 0) (hi := 1539) rfl ⟨by omega, by omega⟩).put 111 (x62 : Int).toNat (x := y156) (lo := 0) (hi := 171) rfl ⟨by omega, by omega⟩)
        have hF162 := ((hF66.up 110 (x62 : Int).toNat y137 (by decide) rfl).up 111 (x62 : Int).toNat y156 (by decide) rfl)
        obtain ⟨V159, hv160⟩ : ∃ V, V = (pm_up (pm_up V64 110 (x62 : Int).toNat y137) 111 (x62 : Int).toNat y156) := ⟨_, rfl⟩
        rw [← hv160] at hV161 hF162
        rw [← hv160]
        have e163 : V159 90 16 = y1 := by rw [hv160]; exact e67
        have e164 : V159 90 18 = 98 := by rw [hv160]; exact e68
        have e165 : V159 90 24 = 100 := by rw [hv160]; exact e69
        have e166 : V159 90 20 = y32 := by rw [hv160]; exact e70
        have e167 : V159 90 48 = ((a1 / 10) % 10) := by rw [hv160]; exact e71
        have e168 : V159 90 49 = (a1 % 10) := by rw [hv160]; exact e72
        have e169 : V159 90 42 = y17 := by rw [hv160]; exact e73
        have e170 : V159 90 43 = y30 := by rw [hv160]; exact e74
        have e171 : V159 90 47 = y43 := by rw [hv160]; exact e75
        have e172 : V159 90 44 = y91 := by rw [hv160]; exact e92
        have e173 : V159 90 45 = y94 := by rw [hv160]; exact e95
        have e174 : V159 90 46 = y97 := by rw [hv160]; exact e98
        have e175 : V159 90 40 = 110 := by rw [hv160]; exact e100
        have e176 : V159 90 17 = 97 := by rw [hv160]; exact e101
        have e177 : V159 90 41 = 111 := by rw [hv160]; exact e140
        have hp178 : pm_h1 V159 := by rw [hv160]; exact (pm_h1.fr hp76 rfl rfl)
        obtain ⟨y179, e180⟩ : ∃ y, V159 110 (x62 : Int).toNat = y := ⟨_, rfl⟩
        have b181 := hV161.get 110 (x62 : Int).toNat (lo := 0) (hi := 1539) (t := 0) (by decide) (show _ < 9 by omega) rfl
        rw [e180] at b181
        refine pm_iaload (len := 9) (v := y179) hC 110 rfl rfl (by decide) ⟨by omega, by omega⟩ (by decide) e180 dX12_works_282 ?_
        refine pm_i2l hC ⟨by omega, by omega⟩ dX12_works_283 ?_
        refine pm_ladd hC dX12_works_284 ?_
        refine pm_putf hC 90 fl_X12_326 rfl rfl rfl (by decide) rfl trivial dX12_works_285 ?_
        refine pm_aload_n hC 0 (by decide) dX12_works_288 rfl ?_
        refine pm_dup hC rfl dX12_works_289 ?_
        refine pm_getf (v := y94) hC 90 fl_X12_329 rfl rfl (by decide) rfl e173 dX12_works_290 ?_
        refine pm_aload_n hC 0 (by decide) dX12_works_293 rfl ?_
        refine pm_getf (v := 111) hC 90 fl_X12_73 rfl rfl (by decide) rfl e177 dX12_works_294 ?_
        refine pm_iload hC 6 dX12_works_297 rfl ?_
        obtain ⟨y182, e183⟩ : ∃ y, V159 111 (x62 : Int).toNat = y := ⟨_, rfl⟩
        have b184 := hV161.get 111 (x62 : Int).toNat (lo := 0) (hi := 171) (t := 0) (by decide) (show _ < 9 by omega) rfl
        rw [e183] at b184
        refine pm_iaload (len := 9) (v := y182) hC 111 rfl rfl (by decide) ⟨by omega, by omega⟩ (by decide) e183 dX12_works_299 ?_
        refine pm_i2l hC ⟨by omega, by omega⟩ dX12_works_300 ?_
        refine pm_ladd hC dX12_works_301 ?_
        refine pm_putf hC 90 fl_X12_329 rfl rfl rfl (by decide) rfl trivial dX12_works_302 ?_
        refine pm_aload_n hC 0 (by decide) dX12_works_305 rfl ?_
        refine pm_dup hC rfl dX12_works_306 ?_
        refine pm_getf (v := y97) hC 90 fl_X12_332 rfl rfl (by decide) rfl e174 dX12_works_307 ?_
        refine pm_aload_n hC 0 (by decide) dX12_works_310 rfl ?_
        refine pm_getf (v := 110) hC 90 fl_X12_70 rfl rfl (by decide) rfl e175 dX12_works_311 ?_
        refine pm_iload hC 6 dX12_works_314 rfl ?_
        refine pm_iaload (len := 9) (v := y179) hC 110 rfl rfl (by decide) ⟨by omega, by omega⟩ (by decide) e180 dX12_works_316 ?_
        refine pm_i2l hC ⟨by omega, by omega⟩ dX12_works_317 ?_
        refine pm_aload_n hC 0 (by decide) dX12_works_318 rfl ?_
        refine pm_getf (v := 111) hC 90 fl_X12_73 rfl rfl (by decide) rfl e177 dX12_works_319 ?_
        refine pm_iload hC 6 dX12_works_322 rfl ?_
        refine pm_iaload (len := 9) (v := y182) hC 111 rfl rfl (by decide) ⟨by omega, by omega⟩ (by decide) e183 dX12_works_324 ?_
        refine pm_i2l hC ⟨by omega, by omega⟩ dX12_works_325 ?_
        refine pm_lmul hC dX12_works_326 ?_
        have b186 : 0 ≤ (y179 * y182) ∧ (y179 * y182) ≤ 263169 := pm_mulb (by omega) (by omega) (show y179 ≤ 1539 by omega) (show y182 ≤ 171 by omega) (by decide)
        generalize hey185 : (y179 * y182) = y185 at b186 ⊢
        refine pm_ladd hC dX12_works_327 ?_
        refine pm_putf hC 90 fl_X12_332 rfl rfl rfl (by decide) rfl trivial dX12_works_328 ?_
        obtain ⟨x187, ei188⟩ : ∃ y : Int, x62 + 1 = y := ⟨_, rfl⟩
        refine pm_iinc (y := x187) (lv' := [(6, (0, x187)), (0, (3, 90)), (1, (0, a1)), (2, (0, a2)), (3, (0, a3)), (4, (0, (4 * (a1 / 100)))), (5, (0, y35))]) hC 6 dX12_works_331 (by decide) rfl ei188 rfl ?_
        refine pm_goto (tgt := 163) hC dX12_works_334 (by decide) ?_
        refine pm_lvsub [1, 2, 3, 4, 5, 6, 0] (lv' := [(0, (3, 90)), (1, (0, a1)), (2, (0, a2)), (3, (0, a3)), (4, (0, (4 * (a1 / 100)))), (5, (0, y35)), (6, (0, x187))]) rfl ?_
        exact ih87 _ (by omega) x187 (pm_up (pm_up (pm_up V159 90 44 (y91 + y179)) 90 45 (y94 + y182)) 90 46 (y97 + y185)) ⟨by omega, by omega⟩ (((hV161.put 90 44 (x := (y91 + y179)) (lo := 0) (hi := 13851) rfl ⟨by omega, by omega⟩).put 90 45 (x := (y94 + y182)) (lo := 0) (hi := 1539) rfl ⟨by omega, by omega⟩).put 90 46 (x := (y97 + y185)) (lo := 0) (hi := 2368521) rfl ⟨by omega, by omega⟩) (((hF162.upf 44 (y91 + y179) rfl).upf 45 (y94 + y182) rfl).upf 46 (y97 + y185) rfl) e163 e164 e165 e166 e167 e168 e169 e170 e171 (pm_h1.fr hp178 rfl rfl) (show (y91 + y179) ≤ 1539 * x187 by omega) (show (y94 + y182) ≤ 171 * x187 by omega) (show (y97 + y185) ≤ 263169 * x187 by omega) (fun h => by show 1 ≤ V159 110 (((a1 / 10) % 10)).toNat; rw [hv160]; exact pm_up_get (V := V64) (k := 110) (i := x62) (a := ((a1 / 10) % 10)) (x := y137) (p := fun z => 1 ≤ z) (by omega) (by omega) hv139 (fun hne => hx80 (by omega))) (fun h => by show 1 ≤ V159 111 ((a1 % 10)).toNat; rw [hv160]; exact pm_up_get (V := V64) (k := 111) (i := x62) (a := (a1 % 10)) (x := y156) (p := fun z => 1 ≤ z) (by omega) (by omega) hv158 (fun hne => hx81 (by omega))) (fun h => by have h9 : 1 ≤ (y97 + y185) := h; (by_cases hy : 1 ≤ y185); (have hm : y179 * y182 = y185 := hey185; obtain ⟨m1, m2⟩ := pm_mulpos (x := y179) (y := y182) (by omega) (by omega) (by rw [hm]; exact hy); exact ⟨((x62) : Int).toNat, by omega, by (show 1 ≤ V159 110 ((x62) : Int).toNat; rw [e180]; exact m1), by (show 1 ≤ V159 111 ((x62) : Int).toNat; rw [e183]; exact m2)⟩); (obtain ⟨q, q1, q2, q3⟩ := hx82 (by (have h46 : V64 90 46 = V159 90 46 := by rw [hv160]; rfl); rw [h46, e174]; omega); exact ⟨q, by omega, by (show 1 ≤ V159 110 q; rw [hv160, pm_up_c (by decide), pm_up_i (by omega)]; exact q2), by (show 1 ≤ V159 111 q; rw [hv160, pm_up_i (by omega), pm_up_c (by decide)]; exact q3)⟩)) (by show x187 ≤ V159 90 16; rw [e163]; omega) rfl
    refine pm_lvsub [3, 4, 5, 6, 2, 1, 0] (lv' := [(0, (3, 90)), (1, (0, a1)), (2, (0, a2)), (3, (0, a3)), (4, (0, (4 * (a1 / 100)))), (5, (0, y35)), (6, (0, 0))]) rfl ?_
    exact L84 _ 0 V45 ⟨by decide, by decide⟩ hV47 hF48 e49 e50 e51 e52 e53 e54 e55 e56 e57 hp61 (by (have e : V45 90 44 = 0 := e58); rw [e]; omega) (by (have e : V45 90 45 = 0 := e59); rw [e]; omega) (by (have e : V45 90 46 = 0 := e60); rw [e]; omega) (fun h => absurd h (by omega)) (fun h => absurd h (by omega)) (fun h => absurd h (by rw [e60]; decide)) (by rw [e49]; omega) rfl
  · skip
    refine pm_iload_n hC 5 dX12_works_124 rfl ?_
    refine pm_aload_n hC 2 (by decide) dX12_works_125 rfl ?_
    refine pm_getf (v := y32) hC 90 fl_X12_229 rfl rfl (by decide) rfl e33 dX12_works_126 ?_
    refine pm_idiv hC ⟨by omega, by omega, by omega⟩ ⟨by omega, by omega, by omega⟩ dX12_works_129 ?_
    have b190 := pm_divb (x := a3) (y := y32) (by omega) (by omega)
    generalize (a3 / y32) = y189 at b190 ⊢
    refine pm_goto (tgt := 138) hC dX12_works_130 (by decide) ?_
    refine pm_isub hC dX12_works_138 ?_
    refine pm_mmax hC 7047 4012 1018 4013 ⟨by decide, by decide⟩ ⟨by omega, by omega⟩ (by decide) wL_X12_311 wS_mmax wI_math wC_mmax (Nat.le_of_ble_eq_true rfl) dX12_works_139 (fun y191 b192 => ?_)
    replace b192 : 0 ≤ y191 ∧ y191 ≤ 16 ∧ 0 ≤ y191 ∧ (y37 - y189) ≤ y191 := ⟨by omega, by omega, b192.1, b192.2.1⟩
    refine pm_putf hC 90 fl_X12_323 rfl rfl rfl (by decide) rfl trivial dX12_works_142 ?_
    refine pm_aload_n hC 2 (by decide) dX12_works_145 rfl ?_
    refine pm_lconst (x := 0) hC dX12_works_146 rfl ?_
    refine pm_putf hC 90 fl_X12_326 rfl rfl rfl (by decide) rfl trivial dX12_works_147 ?_
    refine pm_aload_n hC 2 (by decide) dX12_works_150 rfl ?_
    refine pm_lconst (x := 0) hC dX12_works_151 rfl ?_
    refine pm_putf hC 90 fl_X12_329 rfl rfl rfl (by decide) rfl trivial dX12_works_152 ?_
    refine pm_aload_n hC 2 (by decide) dX12_works_155 rfl ?_
    refine pm_lconst (x := 0) hC dX12_works_156 rfl ?_
    refine pm_putf hC 90 fl_X12_332 rfl rfl rfl (by decide) rfl trivial dX12_works_157 ?_
    refine pm_iconst (v := 0) hC dX12_works_160 ?_
    refine pm_istore (lv' := [(6, (0, 0)), (5, (0, y35)), (4, (0, (4 * (a1 / 100)))), (0, (3, 90)), (1, (0, a1)), (2, (0, a2)), (3, (0, a3))]) hC dX12_works_161 (by decide) rfl ?_
    have hV195 := ((((((((hV0.put 90 48 (x := ((a1 / 10) % 10)) (lo := 0) (hi := 8) rfl ⟨by omega, by omega⟩).put 90 49 (x := (a1 % 10)) (lo := 0) (hi := 8) rfl ⟨by omega, by omega⟩).put 90 42 (x := y17) (lo := 0) (hi := 171) rfl ⟨by omega, by omega⟩).put 90 43 (x := y30) (lo := 0) (hi := 171) rfl ⟨by omega, by omega⟩).put 90 47 (x := y191) (lo := 0) (hi := 16) rfl ⟨by omega, by omega⟩).put 90 44 (x := 0) (lo := 0) (hi := 13851) rfl ⟨by decide, by decide⟩).put 90 45 (x := 0) (lo := 0) (hi := 1539) rfl ⟨by decide, by decide⟩).put 90 46 (x := 0) (lo := 0) (hi := 2368521) rfl ⟨by decide, by decide⟩)
    have hF196 := (((((((((pm_fs.rf (cs := [110, 111]) (fs := [42, 43, 44, 45, 46, 47, 48, 49]) (V := V0)).upf 48 ((a1 / 10) % 10) rfl).upf 49 (a1 % 10) rfl).upf 42 y17 rfl).upf 43 y30 rfl).upf 47 y191 rfl).upf 44 0 rfl).upf 45 0 rfl).upf 46 0 rfl)
    obtain ⟨V193, hv194⟩ : ∃ V, V = (pm_up (pm_up (pm_up (pm_up (pm_up (pm_up (pm_up (pm_up V0 90 48 ((a1 / 10) % 10)) 90 49 (a1 % 10)) 90 42 y17) 90 43 y30) 90 47 y191) 90 44 0) 90 45 0) 90 46 0) := ⟨_, rfl⟩
    rw [← hv194] at hV195 hF196
    rw [← hv194]
    have e197 : V193 90 16 = y1 := by rw [hv194]; exact e2
    have e198 : V193 90 18 = 98 := by rw [hv194]; exact e4
    have e199 : V193 90 24 = 100 := by rw [hv194]; exact e8
    have e200 : V193 90 20 = y32 := by rw [hv194]; exact e33
    have e201 : V193 90 48 = ((a1 / 10) % 10) := by rw [hv194]; rfl
    have e202 : V193 90 49 = (a1 % 10) := by rw [hv194]; rfl
    have e203 : V193 90 42 = y17 := by rw [hv194]; rfl
    have e204 : V193 90 43 = y30 := by rw [hv194]; rfl
    have e205 : V193 90 47 = y191 := by rw [hv194]; rfl
    have e206 : V193 90 44 = 0 := by rw [hv194]; rfl
    have e207 : V193 90 45 = 0 := by rw [hv194]; rfl
    have e208 : V193 90 46 = 0 := by rw [hv194]; rfl
    have hp209 : pm_h1 V193 := by rw [hv194]; exact (pm_h1.fr hn_pm_h1 rfl rfl)
    have L232 : ∀ (N234 : Nat) (x210 : Int) (V212 : pm_M), (0 ≤ x210 ∧ x210 ≤ 9) → pm_oq pm_qB V212 → pm_fs [110, 111] [42, 43, 44, 45, 46, 47, 48, 49] V0 V212 → V212 90 16 = y1 → V212 90 18 = 98 → V212 90 24 = 100 → V212 90 20 = y32 → V212 90 48 = ((a1 / 10) % 10) → V212 90 49 = (a1 % 10) → V212 90 42 = y17 → V212 90 43 = y30 → V212 90 47 = y191 → pm_h1 V212 → (V212 90 44 ≤ 1539 * x210) → (V212 90 45 ≤ 171 * x210) → (V212 90 46 ≤ 263169 * x210) → (((a1 / 10) % 10) < x210 → 1 ≤ V212 110 (((a1 / 10) % 10)).toNat) → ((a1 % 10) < x210 → 1 ≤ V212 111 ((a1 % 10)).toNat) → (1 ≤ V212 90 46 → ∃ q : Nat, (q : Int) < x210 ∧ 1 ≤ V212 110 q ∧ 1 ≤ V212 111 q) → (x210 ≤ V212 90 16) → (Int.toNat (9 - x210)) = N234 → pm_J X 163 [(0, (3, 90)), (1, (0, a1)), (2, (0, a2)), (3, (0, a3)), (4, (0, (4 * (a1 / 100)))), (5, (0, y35)), (6, (0, x210))] [] 118 V212 := by
      intro N234
      induction N234 using Nat.strongRecOn with
      | _ N234 ih235 =>
      intro x210 V212 b211 hV213 hF214 e215 e216 e217 e218 e219 e220 e221 e222 e223 hp224 hm225 hm226 hm227 hx228 hx229 hx230 hx231 hm233
      refine pm_iload hC 6 dX12_works_163 rfl ?_
      refine pm_aload_n hC 0 (by decide) dX12_works_165 rfl ?_
      refine pm_getf (v := y1) hC 90 fl_X12_220 rfl rfl (by decide) rfl e215 dX12_works_166 ?_
      refine pm_icmp_ge (tgt := 337) hC ⟨by omega, by omega⟩ ⟨by omega, by omega⟩ dX12_works_169 (by decide) (fun c236 => ?_) (fun c236 => ?_)
      · skip
        have q237 : 1 ≤ V212 90 42 ∧ V212 90 42 ≤ 171 := by (have e : V212 90 42 = y17 := e221); rw [e]; exact ⟨by omega, by omega⟩
        have q238 : 1 ≤ V212 90 43 ∧ V212 90 43 ≤ 171 := by (have e : V212 90 43 = y30 := e222); rw [e]; exact ⟨by omega, by omega⟩
        exact pm_vret hC hR ⟨rfl, hV213, hF214, q237, q238, (by unfold pm_w1; rw [e219, e220, e215]; exact ⟨by omega, by omega, by omega, by omega, hx228 (by omega), hx229 (by omega)⟩), (by have hle := hx231; rw [e215] at hle; unfold pm_w3; rw [e215]; intro h; obtain ⟨q, q1, q2, q3⟩ := hx230 h; exact ⟨q, by omega, q2, q3⟩)⟩ dX12_works_337
      · skip
        obtain ⟨y239, e240⟩ : ∃ y, V212 90 44 = y := ⟨_, rfl⟩
        have b241 := hV213.get 90 44 (lo := 0) (hi := 13851) (by decide) (by decide) rfl
        rw [e240] at b241
        obtain ⟨y242, e243⟩ : ∃ y, V212 90 45 = y := ⟨_, rfl⟩
        have b244 := hV213.get 90 45 (lo := 0) (hi := 1539) (by decide) (by decide) rfl
        rw [e243] at b244
        obtain ⟨y245, e246⟩ : ∃ y, V212 90 46 = y := ⟨_, rfl⟩
        have b247 := hV213.get 90 46 (lo := 0) (hi := 2368521) (by decide) (by decide) rfl
        rw [e246] at b247
        refine pm_aload_n hC 0 (by decide) dX12_works_172 rfl ?_
        have e248 : V212 90 40 = 110 := hV213.one 90 40 (by decide) (by decide) rfl
        refine pm_getf (v := 110) hC 90 fl_X12_70 rfl rfl (by decide) rfl e248 dX12_works_173 ?_
        refine pm_iload hC 6 dX12_works_176 rfl ?_
        refine pm_iconst (v := 0) hC dX12_works_178 ?_
        refine pm_aload_n hC 0 (by decide) dX12_works_179 rfl ?_
        have e249 : V212 90 17 = 97 := hV213.one 90 17 (by decide) (by decide) rfl
        refine pm_getf (v := 97) hC 90 fl_X12_31 rfl rfl (by decide) rfl e249 dX12_works_180 ?_
        refine pm_iconst (v := 3) hC dX12_works_183 ?_
        refine pm_iload hC 6 dX12_works_184 rfl ?_
        refine pm_imul hC dX12_works_186 ?_
        refine pm_iconst (v := 2) hC dX12_works_187 ?_
        refine pm_iadd hC dX12_works_188 ?_
        obtain ⟨y250, e251⟩ : ∃ y, V212 97 (((3 * x210) + 2) : Int).toNat = y := ⟨_, rfl⟩
        have b252 := hV213.get 97 (((3 * x210) + 2) : Int).toNat (lo := 0) (hi := 9) (t := 0) (by decide) (show _ < 27 by omega) ((pm_qe_r (tb := pm_qB) (k := 97) (i := (((3 * x210) + 2) : Int).toNat) (m := 3) (r := 2) (l := [(0, 99, 0), (0, 99, 0), (0, 9, 0)]) rfl rfl (by omega)).trans rfl)
        rw [e251] at b252
        refine pm_iaload (len := 27) (v := y250) hC 97 rfl rfl (by decide) ⟨by omega, by omega⟩ (by decide) e251 dX12_works_189 ?_
        refine pm_aload_n hC 0 (by decide) dX12_works_190 rfl ?_
        refine pm_getf (v := y17) hC 90 fl_X12_317 rfl rfl (by decide) rfl e221 dX12_works_191 ?_
        refine pm_aload_n hC 0 (by decide) dX12_works_194 rfl ?_
        refine pm_iload hC 6 dX12_works_195 rfl ?_
        refine pm_callV (ci := 12) (as := [(0, x210)]) (st := [(0, y17), (0, y250), (0, 0), (0, x210), (3, 110)]) hC 90 (B_X12_x x210 ⟨by omega, by omega⟩) lm_X12_335 li_X12_x (by decide) (by decide) rfl rfl rfl (by decide) rfl rfl (Nat.le_of_ble_eq_true rfl) ⟨Nat.le_refl _, Or.inl rfl⟩ dX12_works_197 ⟨rfl, hV213⟩ (fun r253 V254 hp255 => ?_)
        obtain ⟨y256, rfl, b257, rfl⟩ := hp255
        change pm_J X 200 [(0, (3, 90)), (1, (0, a1)), (2, (0, a2)), (3, (0, a3)), (4, (0, (4 * (a1 / 100)))), (5, (0, y35)), (6, (0, x210))] [(0, y256), (0, y17), (0, y250), (0, 0), (0, x210), (3, 110)] 118 V212
        refine pm_aload_n hC 0 (by decide) dX12_works_200 rfl ?_
        refine pm_aload_n hC 0 (by decide) dX12_works_201 rfl ?_
        refine pm_getf (v := ((a1 / 10) % 10)) hC 90 fl_X12_305 rfl rfl (by decide) rfl e219 dX12_works_202 ?_
        refine pm_callV (ci := 12) (as := [(0, ((a1 / 10) % 10))]) (st := [(0, y256), (0, y17), (0, y250), (0, 0), (0, x210), (3, 110)]) hC 90 (B_X12_x ((a1 / 10) % 10) ⟨by omega, by omega⟩) lm_X12_335 li_X12_x (by decide) (by decide) rfl rfl rfl (by decide) rfl rfl (Nat.le_of_ble_eq_true rfl) ⟨Nat.le_refl _, Or.inl rfl⟩ dX12_works_205 ⟨rfl, hV213⟩ (fun r258 V259 hp260 => ?_)
        obtain ⟨y261, rfl, b262, rfl⟩ := hp260
        change pm_J X 208 [(0, (3, 90)), (1, (0, a1)), (2, (0, a2)), (3, (0, a3)), (4, (0, (4 * (a1 / 100)))), (5, (0, y35)), (6, (0, x210))] [(0, y261), (0, y256), (0, y17), (0, y250), (0, 0), (0, x210), (3, 110)] 118 V212
        refine pm_isub hC dX12_works_208 ?_
        refine pm_callS (as := [(0, (y256 - y261))]) (st := [(0, y17), (0, y250), (0, 0), (0, x210), (3, 110)]) hC (B_X12_far (y256 - y261) ⟨by omega, by omega⟩) lm_X12_338 ls_X12_far (by decide) (by decide) rfl rfl (Nat.le_of_ble_eq_true rfl) ⟨Nat.le_refl _, Or.inl rfl⟩ dX12_works_209 ⟨rfl, hV213⟩ (fun r263 V264 hp265 => ?_)
        obtain ⟨y266, rfl, b267, rfl⟩ := hp265
        change pm_J X 212 [(0, (3, 90)), (1, (0, a1)), (2, (0, a2)), (3, (0, a3)), (4, (0, (4 * (a1 / 100)))), (5, (0, y35)), (6, (0, x210))] [(0, y266), (0, y17), (0, y250), (0, 0), (0, x210), (3, 110)] 118 V212
        refine pm_isub hC dX12_works_212 ?_
        refine pm_aload_n hC 0 (by decide) dX12_works_213 rfl ?_
        refine pm_iload hC 6 dX12_works_214 rfl ?_
        refine pm_callV (ci := 12) (as := [(0, x210)]) (st := [(0, (y17 - y266)), (0, y250), (0, 0), (0, x210), (3, 110)]) hC 90 (B_X12_y x210 ⟨by omega, by omega⟩) lm_X12_341 li_X12_y (by decide) (by decide) rfl rfl rfl (by decide) rfl rfl (Nat.le_of_ble_eq_true rfl) ⟨Nat.le_refl _, Or.inl rfl⟩ dX12_works_216 ⟨rfl, hV213⟩ (fun r268 V269 hp270 => ?_)
        obtain ⟨y271, rfl, b272, rfl⟩ := hp270
        change pm_J X 219 [(0, (3, 90)), (1, (0, a1)), (2, (0, a2)), (3, (0, a3)), (4, (0, (4 * (a1 / 100)))), (5, (0, y35)), (6, (0, x210))] [(0, y271), (0, (y17 - y266)), (0, y250), (0, 0), (0, x210), (3, 110)] 118 V212
        refine pm_aload_n hC 0 (by decide) dX12_works_219 rfl ?_
        refine pm_aload_n hC 0 (by decide) dX12_works_220 rfl ?_
        refine pm_getf (v := ((a1 / 10) % 10)) hC 90 fl_X12_305 rfl rfl (by decide) rfl e219 dX12_works_221 ?_
        refine pm_callV (ci := 12) (as := [(0, ((a1 / 10) % 10))]) (st := [(0, y271), (0, (y17 - y266)), (0, y250), (0, 0), (0, x210), (3, 110)]) hC 90 (B_X12_y ((a1 / 10) % 10) ⟨by omega, by omega⟩) lm_X12_341 li_X12_y (by decide) (by decide) rfl rfl rfl (by decide) rfl rfl (Nat.le_of_ble_eq_true rfl) ⟨Nat.le_refl _, Or.inl rfl⟩ dX12_works_224 ⟨rfl, hV213⟩ (fun r273 V274 hp275 => ?_)
        obtain ⟨y276, rfl, b277, rfl⟩ := hp275
        change pm_J X 227 [(0, (3, 90)), (1, (0, a1)), (2, (0, a2)), (3, (0, a3)), (4, (0, (4 * (a1 / 100)))), (5, (0, y35)), (6, (0, x210))] [(0, y276), (0, y271), (0, (y17 - y266)), (0, y250), (0, 0), (0, x210), (3, 110)] 118 V212
        refine pm_isub hC dX12_works_227 ?_
        refine pm_callS (as := [(0, (y271 - y276))]) (st := [(0, (y17 - y266)), (0, y250), (0, 0), (0, x210), (3, 110)]) hC (B_X12_far (y271 - y276) ⟨by omega, by omega⟩) lm_X12_338 ls_X12_far (by decide) (by decide) rfl rfl (Nat.le_of_ble_eq_true rfl) ⟨Nat.le_refl _, Or.inl rfl⟩ dX12_works_228 ⟨rfl, hV213⟩ (fun r278 V279 hp280 => ?_)
        obtain ⟨y281, rfl, b282, rfl⟩ := hp280
        change pm_J X 231 [(0, (3, 90)), (1, (0, a1)), (2, (0, a2)), (3, (0, a3)), (4, (0, (4 * (a1 / 100)))), (5, (0, y35)), (6, (0, x210))] [(0, y281), (0, (y17 - y266)), (0, y250), (0, 0), (0, x210), (3, 110)] 118 V212
        refine pm_isub hC dX12_works_231 ?_
        refine pm_imul hC dX12_works_232 ?_
        have b284 : (-1773) ≤ (y250 * ((y17 - y266) - y281)) ∧ (y250 * ((y17 - y266) - y281)) ≤ 1539 := pm_mulg (a := 0) (b := 9) (c := (-197)) (d := 171) ⟨by omega, by omega⟩ ⟨by omega, by omega⟩ (by decide) (by decide)
        generalize hey283 : (y250 * ((y17 - y266) - y281)) = y283 at b284 ⊢
        refine pm_mmax hC 7047 4012 1018 4013 ⟨by decide, by decide⟩ ⟨by omega, by omega⟩ (by decide) wL_X12_311 wS_mmax wI_math wC_mmax (Nat.le_of_ble_eq_true rfl) dX12_works_233 (fun y285 b286 => ?_)
        replace b286 : 0 ≤ y285 ∧ y285 ≤ 1539 ∧ 0 ≤ y285 ∧ y283 ≤ y285 := ⟨by omega, by omega, b286.1, b286.2.1⟩
        have hv287 : ((a1 / 10) % 10) = x210 → 1 ≤ y285 := by
          intro hq
          have q1 : V212 97 (3 * x210).toNat = V212 97 (3 * ((a1 / 10) % 10)).toNat := by rw [hq]
          have q2 : V212 97 (3 * x210 + 1).toNat = V212 97 (3 * ((a1 / 10) % 10) + 1).toNat := by rw [hq]
          have hh := hp224 x210 (by omega) (by omega)
          have hfz0 : y266 = 0 := pm_far0 b267 (by omega)
          have hfz1 : y281 = 0 := pm_far0 b282 (by omega)
          have hp : 1 ≤ y250 * ((y17 - y266) - y281) := pm_mul1 (by omega) (by omega)
          omega
        refine pm_iastore (len := 9) hC 110 rfl rfl (by decide) ⟨by omega, by omega⟩ (by decide) dX12_works_236 ?_
        refine pm_aload_n hC 0 (by decide) dX12_works_237 rfl ?_
        have e288 : V212 90 41 = 111 := hV213.one 90 41 (by decide) (by decide) rfl
        refine pm_getf (v := 111) hC 90 fl_X12_73 rfl rfl (by decide) rfl e288 dX12_works_238 ?_
        refine pm_iload hC 6 dX12_works_241 rfl ?_
        refine pm_iconst (v := 0) hC dX12_works_243 ?_
        refine pm_aload_n hC 0 (by decide) dX12_works_244 rfl ?_
        refine pm_getf (v := y30) hC 90 fl_X12_320 rfl rfl (by decide) rfl e222 dX12_works_245 ?_
        refine pm_aload_n hC 0 (by decide) dX12_works_248 rfl ?_
        refine pm_iload hC 6 dX12_works_249 rfl ?_
        refine pm_callV (ci := 12) (as := [(0, x210)]) (st := [(0, y30), (0, 0), (0, x210), (3, 111)]) hC 90 (B_X12_x x210 ⟨by omega, by omega⟩) lm_X12_335 li_X12_x (by decide) (by decide) rfl rfl rfl (by decide) rfl rfl (Nat.le_of_ble_eq_true rfl) ⟨Nat.le_refl _, Or.inl rfl⟩ dX12_works_251 ⟨rfl, (hV213.put 110 (x210 : Int).toNat (x := y285) (lo := 0) (hi := 1539) rfl ⟨by omega, by omega⟩)⟩ (fun r289 V290 hp291 => ?_)
        obtain ⟨y292, rfl, b293, rfl⟩ := hp291
        change pm_J X 254 [(0, (3, 90)), (1, (0, a1)), (2, (0, a2)), (3, (0, a3)), (4, (0, (4 * (a1 / 100)))), (5, (0, y35)), (6, (0, x210))] [(0, y292), (0, y30), (0, 0), (0, x210), (3, 111)] 118 (pm_up V212 110 (x210 : Int).toNat y285)
        refine pm_aload_n hC 0 (by decide) dX12_works_254 rfl ?_
        refine pm_aload_n hC 0 (by decide) dX12_works_255 rfl ?_
        refine pm_getf (v := (a1 % 10)) hC 90 fl_X12_308 rfl rfl (by decide) rfl e220 dX12_works_256 ?_
        refine pm_callV (ci := 12) (as := [(0, (a1 % 10))]) (st := [(0, y292), (0, y30), (0, 0), (0, x210), (3, 111)]) hC 90 (B_X12_x (a1 % 10) ⟨by omega, by omega⟩) lm_X12_335 li_X12_x (by decide) (by decide) rfl rfl rfl (by decide) rfl rfl (Nat.le_of_ble_eq_true rfl) ⟨Nat.le_refl _, Or.inl rfl⟩ dX12_works_259 ⟨rfl, (hV213.put 110 (x210 : Int).toNat (x := y285) (lo := 0) (hi := 1539) rfl ⟨by omega, by omega⟩)⟩ (fun r294 V295 hp296 => ?_)
        obtain ⟨y297, rfl, b298, rfl⟩ := hp296
        change pm_J X 262 [(0, (3, 90)), (1, (0, a1)), (2, (0, a2)), (3, (0, a3)), (4, (0, (4 * (a1 / 100)))), (5, (0, y35)), (6, (0, x210))] [(0, y297), (0, y292), (0, y30), (0, 0), (0, x210), (3, 111)] 118 (pm_up V212 110 (x210 : Int).toNat y285)
        refine pm_isub hC dX12_works_262 ?_
        refine pm_callS (as := [(0, (y292 - y297))]) (st := [(0, y30), (0, 0), (0, x210), (3, 111)]) hC (B_X12_far (y292 - y297) ⟨by omega, by omega⟩) lm_X12_338 ls_X12_far (by decide) (by decide) rfl rfl (Nat.le_of_ble_eq_true rfl) ⟨Nat.le_refl _, Or.inl rfl⟩ dX12_works_263 ⟨rfl, (hV213.put 110 (x210 : Int).toNat (x := y285) (lo := 0) (hi := 1539) rfl ⟨by omega, by omega⟩)⟩ (fun r299 V300 hp301 => ?_)
        obtain ⟨y302, rfl, b303, rfl⟩ := hp301
        change pm_J X 266 [(0, (3, 90)), (1, (0, a1)), (2, (0, a2)), (3, (0, a3)), (4, (0, (4 * (a1 / 100)))), (5, (0, y35)), (6, (0, x210))] [(0, y302), (0, y30), (0, 0), (0, x210), (3, 111)] 118 (pm_up V212 110 (x210 : Int).toNat y285)
        refine pm_isub hC dX12_works_266 ?_
        refine pm_mmax hC 7047 4012 1018 4013 ⟨by decide, by decide⟩ ⟨by omega, by omega⟩ (by decide) wL_X12_311 wS_mmax wI_math wC_mmax (Nat.le_of_ble_eq_true rfl) dX12_works_267 (fun y304 b305 => ?_)
        replace b305 : 0 ≤ y304 ∧ y304 ≤ 171 ∧ 0 ≤ y304 ∧ (y30 - y302) ≤ y304 := ⟨by omega, by omega, b305.1, b305.2.1⟩
        have hv306 : (a1 % 10) = x210 → 1 ≤ y304 := by
          intro hq
          have q1 : (pm_up V212 110 (x210 : Int).toNat y285) 97 (3 * x210).toNat = (pm_up V212 110 (x210 : Int).toNat y285) 97 (3 * (a1 % 10)).toNat := by rw [hq]
          have hfz0 : y302 = 0 := pm_far0 b303 (by omega)
          omega
        refine pm_iastore (len := 9) hC 111 rfl rfl (by decide) ⟨by omega, by omega⟩ (by decide) dX12_works_270 ?_
        refine pm_aload_n hC 0 (by decide) dX12_works_271 rfl ?_
        refine pm_dup hC rfl dX12_works_272 ?_
        refine pm_getf (v := y239) hC 90 fl_X12_326 rfl rfl (by decide) rfl e240 dX12_works_273 ?_
        refine pm_aload_n hC 0 (by decide) dX12_works_276 rfl ?_
        refine pm_getf (v := 110) hC 90 fl_X12_70 rfl rfl (by decide) rfl e248 dX12_works_277 ?_
        refine pm_iload hC 6 dX12_works_280 rfl ?_
        have hV309 := ((hV213.put 110 (x210 : Int).toNat (x := y285) (lo := 0) (hi := 1539) rfl ⟨by omega, by omega⟩).put 111 (x210 : Int).toNat (x := y304) (lo := 0) (hi := 171) rfl ⟨by omega, by omega⟩)
        have hF310 := ((hF214.up 110 (x210 : Int).toNat y285 (by decide) rfl).up 111 (x210 : Int).toNat y304 (by decide) rfl)
        obtain ⟨V307, hv308⟩ : ∃ V, V = (pm_up (pm_up V212 110 (x210 : Int).toNat y285) 111 (x210 : Int).toNat y304) := ⟨_, rfl⟩
        rw [← hv308] at hV309 hF310
        rw [← hv308]
        have e311 : V307 90 16 = y1 := by rw [hv308]; exact e215
        have e312 : V307 90 18 = 98 := by rw [hv308]; exact e216
        have e313 : V307 90 24 = 100 := by rw [hv308]; exact e217
        have e314 : V307 90 20 = y32 := by rw [hv308]; exact e218
        have e315 : V307 90 48 = ((a1 / 10) % 10) := by rw [hv308]; exact e219
        have e316 : V307 90 49 = (a1 % 10) := by rw [hv308]; exact e220
        have e317 : V307 90 42 = y17 := by rw [hv308]; exact e221
        have e318 : V307 90 43 = y30 := by rw [hv308]; exact e222
        have e319 : V307 90 47 = y191 := by rw [hv308]; exact e223
        have e320 : V307 90 44 = y239 := by rw [hv308]; exact e240
        have e321 : V307 90 45 = y242 := by rw [hv308]; exact e243
        have e322 : V307 90 46 = y245 := by rw [hv308]; exact e246
        have e323 : V307 90 40 = 110 := by rw [hv308]; exact e248
        have e324 : V307 90 17 = 97 := by rw [hv308]; exact e249
        have e325 : V307 90 41 = 111 := by rw [hv308]; exact e288
        have hp326 : pm_h1 V307 := by rw [hv308]; exact (pm_h1.fr hp224 rfl rfl)
        obtain ⟨y327, e328⟩ : ∃ y, V307 110 (x210 : Int).toNat = y := ⟨_, rfl⟩
        have b329 := hV309.get 110 (x210 : Int).toNat (lo := 0) (hi := 1539) (t := 0) (by decide) (show _ < 9 by omega) rfl
        rw [e328] at b329
        refine pm_iaload (len := 9) (v := y327) hC 110 rfl rfl (by decide) ⟨by omega, by omega⟩ (by decide) e328 dX12_works_282 ?_
        refine pm_i2l hC ⟨by omega, by omega⟩ dX12_works_283 ?_
        refine pm_ladd hC dX12_works_284 ?_
        refine pm_putf hC 90 fl_X12_326 rfl rfl rfl (by decide) rfl trivial dX12_works_285 ?_
        refine pm_aload_n hC 0 (by decide) dX12_works_288 rfl ?_
        refine pm_dup hC rfl dX12_works_289 ?_
        refine pm_getf (v := y242) hC 90 fl_X12_329 rfl rfl (by decide) rfl e321 dX12_works_290 ?_
        refine pm_aload_n hC 0 (by decide) dX12_works_293 rfl ?_
        refine pm_getf (v := 111) hC 90 fl_X12_73 rfl rfl (by decide) rfl e325 dX12_works_294 ?_
        refine pm_iload hC 6 dX12_works_297 rfl ?_
        obtain ⟨y330, e331⟩ : ∃ y, V307 111 (x210 : Int).toNat = y := ⟨_, rfl⟩
        have b332 := hV309.get 111 (x210 : Int).toNat (lo := 0) (hi := 171) (t := 0) (by decide) (show _ < 9 by omega) rfl
        rw [e331] at b332
        refine pm_iaload (len := 9) (v := y330) hC 111 rfl rfl (by decide) ⟨by omega, by omega⟩ (by decide) e331 dX12_works_299 ?_
        refine pm_i2l hC ⟨by omega, by omega⟩ dX12_works_300 ?_
        refine pm_ladd hC dX12_works_301 ?_
        refine pm_putf hC 90 fl_X12_329 rfl rfl rfl (by decide) rfl trivial dX12_works_302 ?_
        refine pm_aload_n hC 0 (by decide) dX12_works_305 rfl ?_
        refine pm_dup hC rfl dX12_works_306 ?_
        refine pm_getf (v := y245) hC 90 fl_X12_332 rfl rfl (by decide) rfl e322 dX12_works_307 ?_
        refine pm_aload_n hC 0 (by decide) dX12_works_310 rfl ?_
        refine pm_getf (v := 110) hC 90 fl_X12_70 rfl rfl (by decide) rfl e323 dX12_works_311 ?_
        refine pm_iload hC 6 dX12_works_314 rfl ?_
        refine pm_iaload (len := 9) (v := y327) hC 110 rfl rfl (by decide) ⟨by omega, by omega⟩ (by decide) e328 dX12_works_316 ?_
        refine pm_i2l hC ⟨by omega, by omega⟩ dX12_works_317 ?_
        refine pm_aload_n hC 0 (by decide) dX12_works_318 rfl ?_
        refine pm_getf (v := 111) hC 90 fl_X12_73 rfl rfl (by decide) rfl e325 dX12_works_319 ?_
        refine pm_iload hC 6 dX12_works_322 rfl ?_
        refine pm_iaload (len := 9) (v := y330) hC 111 rfl rfl (by decide) ⟨by omega, by omega⟩ (by decide) e331 dX12_works_324 ?_
        refine pm_i2l hC ⟨by omega, by omega⟩ dX12_works_325 ?_
        refine pm_lmul hC dX12_works_326 ?_
        have b334 : 0 ≤ (y327 * y330) ∧ (y327 * y330) ≤ 263169 := pm_mulb (by omega) (by omega) (show y327 ≤ 1539 by omega) (show y330 ≤ 171 by omega) (by decide)
        generalize hey333 : (y327 * y330) = y333 at b334 ⊢
        refine pm_ladd hC dX12_works_327 ?_
        refine pm_putf hC 90 fl_X12_332 rfl rfl rfl (by decide) rfl trivial dX12_works_328 ?_
        obtain ⟨x335, ei336⟩ : ∃ y : Int, x210 + 1 = y := ⟨_, rfl⟩
        refine pm_iinc (y := x335) (lv' := [(6, (0, x335)), (0, (3, 90)), (1, (0, a1)), (2, (0, a2)), (3, (0, a3)), (4, (0, (4 * (a1 / 100)))), (5, (0, y35))]) hC 6 dX12_works_331 (by decide) rfl ei336 rfl ?_
        refine pm_goto (tgt := 163) hC dX12_works_334 (by decide) ?_
        refine pm_lvsub [1, 2, 3, 4, 5, 6, 0] (lv' := [(0, (3, 90)), (1, (0, a1)), (2, (0, a2)), (3, (0, a3)), (4, (0, (4 * (a1 / 100)))), (5, (0, y35)), (6, (0, x335))]) rfl ?_
        exact ih235 _ (by omega) x335 (pm_up (pm_up (pm_up V307 90 44 (y239 + y327)) 90 45 (y242 + y330)) 90 46 (y245 + y333)) ⟨by omega, by omega⟩ (((hV309.put 90 44 (x := (y239 + y327)) (lo := 0) (hi := 13851) rfl ⟨by omega, by omega⟩).put 90 45 (x := (y242 + y330)) (lo := 0) (hi := 1539) rfl ⟨by omega, by omega⟩).put 90 46 (x := (y245 + y333)) (lo := 0) (hi := 2368521) rfl ⟨by omega, by omega⟩) (((hF310.upf 44 (y239 + y327) rfl).upf 45 (y242 + y330) rfl).upf 46 (y245 + y333) rfl) e311 e312 e313 e314 e315 e316 e317 e318 e319 (pm_h1.fr hp326 rfl rfl) (show (y239 + y327) ≤ 1539 * x335 by omega) (show (y242 + y330) ≤ 171 * x335 by omega) (show (y245 + y333) ≤ 263169 * x335 by omega) (fun h => by show 1 ≤ V307 110 (((a1 / 10) % 10)).toNat; rw [hv308]; exact pm_up_get (V := V212) (k := 110) (i := x210) (a := ((a1 / 10) % 10)) (x := y285) (p := fun z => 1 ≤ z) (by omega) (by omega) hv287 (fun hne => hx228 (by omega))) (fun h => by show 1 ≤ V307 111 ((a1 % 10)).toNat; rw [hv308]; exact pm_up_get (V := V212) (k := 111) (i := x210) (a := (a1 % 10)) (x := y304) (p := fun z => 1 ≤ z) (by omega) (by omega) hv306 (fun hne => hx229 (by omega))) (fun h => by have h9 : 1 ≤ (y245 + y333) := h; (by_cases hy : 1 ≤ y333); (have hm : y327 * y330 = y333 := hey333; obtain ⟨m1, m2⟩ := pm_mulpos (x := y327) (y := y330) (by omega) (by omega) (by rw [hm]; exact hy); exact ⟨((x210) : Int).toNat, by omega, by (show 1 ≤ V307 110 ((x210) : Int).toNat; rw [e328]; exact m1), by (show 1 ≤ V307 111 ((x210) : Int).toNat; rw [e331]; exact m2)⟩); (obtain ⟨q, q1, q2, q3⟩ := hx230 (by (have h46 : V212 90 46 = V307 90 46 := by rw [hv308]; rfl); rw [h46, e322]; omega); exact ⟨q, by omega, by (show 1 ≤ V307 110 q; rw [hv308, pm_up_c (by decide), pm_up_i (by omega)]; exact q2), by (show 1 ≤ V307 111 q; rw [hv308, pm_up_i (by omega), pm_up_c (by decide)]; exact q3)⟩)) (by show x335 ≤ V307 90 16; rw [e311]; omega) rfl
    refine pm_lvsub [3, 4, 5, 6, 2, 1, 0] (lv' := [(0, (3, 90)), (1, (0, a1)), (2, (0, a2)), (3, (0, a3)), (4, (0, (4 * (a1 / 100)))), (5, (0, y35)), (6, (0, 0))]) rfl ?_
    exact L232 _ 0 V193 ⟨by decide, by decide⟩ hV195 hF196 e197 e198 e199 e200 e201 e202 e203 e204 e205 hp209 (by (have e : V193 90 44 = 0 := e206); rw [e]; omega) (by (have e : V193 90 45 = 0 := e207); rw [e]; omega) (by (have e : V193 90 46 = 0 := e208); rw [e]; omega) (fun h => absurd h (by omega)) (fun h => absurd h (by omega)) (fun h => absurd h (by rw [e208]; decide)) (by rw [e197]; omega) rfl
set_option maxHeartbeats 4000000 in
set_option maxRecDepth 100000 in
theorem B_X12_worksAnswer (a1 : Int) (h0 : 0 ≤ a1 ∧ a1 ≤ 59) : pm_K 3 yX12_worksAnswer cX12_worksAnswer 2 none (fun av V => av = [(3, 90), (0, a1)] ∧ pm_oq pm_qB V ∧ (a1 < V 90 25) ∧ pm_h1 V ∧ pm_h3 V) (fun _ V r V' => r = none ∧ pm_oq pm_qB V' ∧ pm_fs [110, 111] [42, 43, 44, 45, 46, 47, 48, 49] V V' ∧ (1 ≤ V' 90 42 ∧ V' 90 42 ≤ 171) ∧ (1 ≤ V' 90 43 ∧ V' 90 43 ≤ 171) ∧ pm_w1 V' ∧ pm_w3 V') := by
  refine pm_MT.of (by decide) ⟨Nat.le_refl _, by decide⟩ (fun av V h => by rw [h.1]; exact (by decide : pm_words [(3, 0), (0, 0)] ≤ 2)) ?_
  rintro X av V0 hC - hR ⟨rfl, hV0, hmp0, hn_pm_h1, hn_pm_h3⟩
  change pm_J X 0 [(0, (3, 90)), (1, (0, a1))] [] 118 V0
  obtain ⟨y1, e2⟩ : ∃ y, V0 90 25 = y := ⟨_, rfl⟩
  have b3 := hV0.get 90 25 (lo := 0) (hi := 60) (by decide) (by decide) rfl
  rw [e2] at b3
  have hh3 := hn_pm_h3 a1 (by omega) (by omega)
  refine pm_aload_n hC 0 (by decide) dX12_worksAnswer_0 rfl ?_
  refine pm_aload_n hC 0 (by decide) dX12_worksAnswer_1 rfl ?_
  have e4 : V0 90 26 = 101 := hV0.one 90 26 (by decide) (by decide) rfl
  refine pm_getf (v := 101) hC 90 fl_X12_43 rfl rfl (by decide) rfl e4 dX12_worksAnswer_2 ?_
  refine pm_iconst (v := 5) hC dX12_worksAnswer_5 ?_
  refine pm_iload_n hC 1 dX12_worksAnswer_6 rfl ?_
  refine pm_imul hC dX12_worksAnswer_7 ?_
  obtain ⟨y5, e6⟩ : ∃ y, V0 101 ((5 * a1) : Int).toNat = y := ⟨_, rfl⟩
  have b7 := hV0.get1 101 ((5 * a1) : Int).toNat (lo := 0) (hi := 999) (by decide) (show _ < 300 by omega) ((pm_qe_r (tb := pm_qB) (k := 101) (i := ((5 * a1) : Int).toNat) (m := 5) (r := 0) (l := [(0, 999, 1), (0, 99, 0), (-99, 99, 0), (0, 8, 0), (0, 1, 0)]) rfl rfl (by omega)).trans rfl)
  rw [e6] at b7
  refine pm_iaload (len := 300) (v := y5) hC 101 rfl rfl (by decide) ⟨by omega, by omega⟩ (by decide) e6 dX12_worksAnswer_8 ?_
  refine pm_aload_n hC 0 (by decide) dX12_worksAnswer_9 rfl ?_
  refine pm_getf (v := 101) hC 90 fl_X12_43 rfl rfl (by decide) rfl e4 dX12_worksAnswer_10 ?_
  refine pm_iconst (v := 5) hC dX12_worksAnswer_13 ?_
  refine pm_iload_n hC 1 dX12_worksAnswer_14 rfl ?_
  refine pm_imul hC dX12_worksAnswer_15 ?_
  refine pm_iconst (v := 1) hC dX12_worksAnswer_16 ?_
  refine pm_iadd hC dX12_worksAnswer_17 ?_
  obtain ⟨y8, e9⟩ : ∃ y, V0 101 (((5 * a1) + 1) : Int).toNat = y := ⟨_, rfl⟩
  have b10 := hV0.get 101 (((5 * a1) + 1) : Int).toNat (lo := 0) (hi := 99) (t := 0) (by decide) (show _ < 300 by omega) ((pm_qe_r (tb := pm_qB) (k := 101) (i := (((5 * a1) + 1) : Int).toNat) (m := 5) (r := 1) (l := [(0, 999, 1), (0, 99, 0), (-99, 99, 0), (0, 8, 0), (0, 1, 0)]) rfl rfl (by omega)).trans rfl)
  rw [e9] at b10
  refine pm_iaload (len := 300) (v := y8) hC 101 rfl rfl (by decide) ⟨by omega, by omega⟩ (by decide) e9 dX12_worksAnswer_18 ?_
  refine pm_aload_n hC 0 (by decide) dX12_worksAnswer_19 rfl ?_
  refine pm_getf (v := 101) hC 90 fl_X12_43 rfl rfl (by decide) rfl e4 dX12_worksAnswer_20 ?_
  refine pm_iconst (v := 5) hC dX12_worksAnswer_23 ?_
  refine pm_iload_n hC 1 dX12_worksAnswer_24 rfl ?_
  refine pm_imul hC dX12_worksAnswer_25 ?_
  refine pm_iconst (v := 2) hC dX12_worksAnswer_26 ?_
  refine pm_iadd hC dX12_worksAnswer_27 ?_
  obtain ⟨y11, e12⟩ : ∃ y, V0 101 (((5 * a1) + 2) : Int).toNat = y := ⟨_, rfl⟩
  have b13 := hV0.get 101 (((5 * a1) + 2) : Int).toNat (lo := (-99)) (hi := 99) (t := 0) (by decide) (show _ < 300 by omega) ((pm_qe_r (tb := pm_qB) (k := 101) (i := (((5 * a1) + 2) : Int).toNat) (m := 5) (r := 2) (l := [(0, 999, 1), (0, 99, 0), (-99, 99, 0), (0, 8, 0), (0, 1, 0)]) rfl rfl (by omega)).trans rfl)
  rw [e12] at b13
  refine pm_iaload (len := 300) (v := y11) hC 101 rfl rfl (by decide) ⟨by omega, by omega⟩ (by decide) e12 dX12_worksAnswer_28 ?_
  refine pm_callV (ci := 12) (as := [(0, y5), (0, y8), (0, y11)]) (st := []) hC 90 (B_X12_works y5 y8 y11 ⟨by omega, by omega⟩ ⟨by omega, by omega⟩ ⟨by omega, by omega⟩ (by omega)) lm_X12_376 li_X12_works (by decide) (by decide) rfl rfl rfl (by decide) rfl rfl (Nat.le_of_ble_eq_true rfl) ⟨Nat.le_refl _, Or.inl rfl⟩ dX12_worksAnswer_29 ⟨rfl, hV0, (show (y5) % 10 < V0 90 16 by omega), (show (y5) / 10 % 10 < V0 90 16 by omega), hn_pm_h1⟩ (fun r14 V15 hp16 => ?_)
  obtain ⟨rfl, hV17, hF18, hq19, hq20, hg21, hg22⟩ := hp16
  change pm_J X 32 [(0, (3, 90)), (1, (0, a1))] [] 118 V15
  have hF23 := pm_fs.tr (pm_fs.rf (cs := [110, 111]) (fs := [42, 43, 44, 45, 46, 47, 48, 49]) (V := V0)) hF18 (by decide) (by decide)
  have e24 : V15 90 25 = y1 := by rw [hF18.2 25 (by decide)]; exact e2
  have e25 : V15 90 26 = 101 := by rw [hF18.2 26 (by decide)]; exact e4
  have hp26 : pm_h1 V15 := (pm_h1.fr hn_pm_h1 (hF18.2 16 (by decide)) (hF18.1 97 (by decide) (by decide)))
  have hp27 : pm_h3 V15 := (pm_h3.fr hn_pm_h3 (hF18.2 16 (by decide)) (hF18.2 25 (by decide)) (hF18.1 101 (by decide) (by decide)))
  obtain ⟨z28, ez29⟩ : ∃ z, V15 90 42 = z := ⟨_, rfl⟩
  rw [ez29] at hq19
  obtain ⟨z30, ez31⟩ : ∃ z, V15 90 43 = z := ⟨_, rfl⟩
  rw [ez31] at hq20
  have q32 : 1 ≤ V15 90 42 ∧ V15 90 42 ≤ 171 := by (have e : V15 90 42 = z28 := ez29); rw [e]; exact ⟨by omega, by omega⟩
  have q33 : 1 ≤ V15 90 43 ∧ V15 90 43 ≤ 171 := by (have e : V15 90 43 = z30 := ez31); rw [e]; exact ⟨by omega, by omega⟩
  exact pm_vret hC hR ⟨rfl, hV17, hF23, q32, q33, hg21, hg22⟩ dX12_worksAnswer_32
