set_option maxHeartbeats 4000000 in
set_option maxRecDepth 100000 in
theorem B_X12_works (a1 a2 a3 : Int) (h0 : 0 ≤ a1 ∧ a1 ≤ 999) (h1 : 0 ≤ a2 ∧ a2 ≤ 99) (h2 : (-99) ≤ a3 ∧ a3 ≤ 99) (h3 : a1 % 10 ≤ 8 ∧ a1 / 10 % 10 ≤ 8) : pm_K 2 yX12_works cX12_works 7 none (fun av V => av = [(3, 90), (0, a1), (0, a2), (0, a3)] ∧ pm_oq pm_qB V ∧ (a1 % 10 < V 90 16) ∧ (a1 / 10 % 10 < V 90 16) ∧ pm_h1 V) (fun _ V r V' => r = none ∧ pm_oq pm_qB V' ∧ pm_fs [110, 111] [42, 43, 44, 45, 46, 47, 48, 49] V V' ∧ (1 ≤ V' 90 42 ∧ V' 90 42 ≤ 171) ∧ (1 ≤ V' 90 43 ∧ V' 90 43 ≤ 171) ∧ pm_w1 V' ∧ pm_w3 V') := by
  refine pm_MT.of (by decide) ⟨Nat.le_refl _, by decide⟩ (fun av V h => by rw [h.1]; exact (by decide : pm_words [(3, 0), (0, 0), (0, 0), (0, 0)] ≤ 7)) ?_
  rintro X av V0 hC - hR ⟨rfl, hV0, hmp0, hmp1, hn_pm_h1⟩
  change pm_J X 0 [(0, (3, 90)), (1, (0, a1)), (2, (0, a2)), (3, (0, a3))] [] 118 V0
  refine pm_iconst (v := 4) hC dX12_works_0 ?_
  refine pm_iload_n hC 1 dX12_works_1 rfl ?_
  refine pm_bipush (v := 100) hC dX12_works_2 (by decide) ?_
  refine pm_idiv hC ⟨by omega, by omega, by omega⟩ ⟨by decide, by decide, by decide⟩ dX12_works_4 ?_
  refine pm_imul hC dX12_works_5 ?_
  refine pm_istore (lv' := [(4, (0, (4 * (a1 / 100)))), (0, (3, 90)), (1, (0, a1)), (2, (0, a2)), (3, (0, a3))]) hC dX12_works_6 (by decide) rfl ?_
  refine pm_aload_n hC 1 (by decide) dX12_works_8 rfl ?_
  refine pm_iload_n hC 2 dX12_works_9 rfl ?_
  refine pm_bipush (v := 10) hC dX12_works_10 (by decide) ?_
  refine pm_idiv hC ⟨by omega, by omega, by omega⟩ ⟨by decide, by decide, by decide⟩ dX12_works_12 ?_
  refine pm_bipush (v := 10) hC dX12_works_13 (by decide) ?_
  refine pm_irem hC ⟨by omega, by omega, by omega⟩ ⟨by decide, by decide, by decide⟩ dX12_works_15 ?_
  refine pm_putf hC 90 fl_X12_305 rfl rfl rfl (by decide) rfl trivial dX12_works_16 ?_
  refine pm_aload_n hC 1 (by decide) dX12_works_19 rfl ?_
  refine pm_iload_n hC 2 dX12_works_20 rfl ?_
  refine pm_bipush (v := 10) hC dX12_works_21 (by decide) ?_
  refine pm_irem hC ⟨by omega, by omega, by omega⟩ ⟨by decide, by decide, by decide⟩ dX12_works_23 ?_
  refine pm_putf hC 90 fl_X12_308 rfl rfl rfl (by decide) rfl trivial dX12_works_24 ?_
  refine pm_aload_n hC 1 (by decide) dX12_works_27 rfl ?_
  refine pm_iconst (v := 1) hC dX12_works_28 ?_
  refine pm_aload_n hC 1 (by decide) dX12_works_29 rfl ?_
  have e1 : V0 90 18 = 98 := hV0.one 90 18 (by decide) (by decide) rfl
  refine pm_getf (v := 98) hC 90 fl_X12_34 rfl rfl (by decide) rfl e1 dX12_works_30 ?_
  refine pm_iconst (v := 0) hC dX12_works_33 ?_
  obtain ⟨y2, e3⟩ : ∃ y, V0 98 (0 : Int).toNat = y := ⟨_, rfl⟩
  have b4 := hV0.get 98 (0 : Int).toNat (lo := 1) (hi := 60) (t := 0) (by decide) (show _ < 4 by omega) rfl
  rw [e3] at b4
  refine pm_iaload (len := 4) (v := y2) hC 98 rfl rfl (by decide) ⟨by decide, by decide⟩ (by decide) e3 dX12_works_34 ?_
  refine pm_aload_n hC 1 (by decide) dX12_works_35 rfl ?_
  have e5 : V0 90 24 = 100 := hV0.one 90 24 (by decide) (by decide) rfl
  refine pm_getf (v := 100) hC 90 fl_X12_40 rfl rfl (by decide) rfl e5 dX12_works_36 ?_
  refine pm_iload hC 0 dX12_works_39 rfl ?_
  obtain ⟨y6, e7⟩ : ∃ y, V0 100 ((4 * (a1 / 100)) : Int).toNat = y := ⟨_, rfl⟩
  have b8 := hV0.get 100 ((4 * (a1 / 100)) : Int).toNat (lo := (-30)) (hi := 30) (t := 0) (by decide) (show _ < 40 by omega) ((pm_qe_r (tb := pm_qB) (k := 100) (i := ((4 * (a1 / 100)) : Int).toNat) (m := 4) (r := 0) (l := [(-30, 30, 0), (-30, 30, 0), (0, 16, 0), (0, 3, 0)]) rfl rfl (by omega)).trans rfl)
  rw [e7] at b8
  refine pm_iaload (len := 40) (v := y6) hC 100 rfl rfl (by decide) ⟨by omega, by omega⟩ (by decide) e7 dX12_works_41 ?_
  refine pm_iadd hC dX12_works_42 ?_
  refine pm_aload_n hC 1 (by decide) dX12_works_43 rfl ?_
  refine pm_getf (v := 98) hC 90 fl_X12_34 rfl rfl (by decide) rfl e1 dX12_works_44 ?_
  refine pm_iconst (v := 1) hC dX12_works_47 ?_
  obtain ⟨y9, e10⟩ : ∃ y, V0 98 (1 : Int).toNat = y := ⟨_, rfl⟩
  have b11 := hV0.get 98 (1 : Int).toNat (lo := 0) (hi := 9) (t := 0) (by decide) (show _ < 4 by omega) rfl
  rw [e10] at b11
  refine pm_iaload (len := 4) (v := y9) hC 98 rfl rfl (by decide) ⟨by decide, by decide⟩ (by decide) e10 dX12_works_48 ?_
  refine pm_iload_n hC 3 dX12_works_49 rfl ?_
  refine pm_bipush (v := 10) hC dX12_works_50 (by decide) ?_
  refine pm_idiv hC ⟨by omega, by omega, by omega⟩ ⟨by decide, by decide, by decide⟩ dX12_works_52 ?_
  refine pm_imul hC dX12_works_53 ?_
  have b13 : 0 ≤ (y9 * (a2 / 10)) ∧ (y9 * (a2 / 10)) ≤ 81 := pm_mulb (by omega) (by omega) (show y9 ≤ 9 by omega) (show (a2 / 10) ≤ 9 by omega) (by decide)
  generalize (y9 * (a2 / 10)) = y12 at b13 ⊢
  refine pm_iadd hC dX12_works_54 ?_
  refine pm_mmax hC 7047 4012 1018 4013 ⟨by decide, by decide⟩ ⟨by omega, by omega⟩ (by decide) wL_X12_311 wS_mmax wI_math wC_mmax (Nat.le_of_ble_eq_true rfl) dX12_works_55 (fun y14 b15 => ?_)
  replace b15 : 1 ≤ y14 ∧ y14 ≤ 171 ∧ 1 ≤ y14 ∧ ((y2 + y6) + y12) ≤ y14 := ⟨by omega, by omega, b15.1, b15.2.1⟩
  refine pm_putf hC 90 fl_X12_317 rfl rfl rfl (by decide) rfl trivial dX12_works_58 ?_
  refine pm_aload_n hC 1 (by decide) dX12_works_61 rfl ?_
  refine pm_iconst (v := 1) hC dX12_works_62 ?_
  refine pm_aload_n hC 1 (by decide) dX12_works_63 rfl ?_
  refine pm_getf (v := 98) hC 90 fl_X12_34 rfl rfl (by decide) rfl e1 dX12_works_64 ?_
  refine pm_iconst (v := 2) hC dX12_works_67 ?_
  obtain ⟨y16, e17⟩ : ∃ y, V0 98 (2 : Int).toNat = y := ⟨_, rfl⟩
  have b18 := hV0.get 98 (2 : Int).toNat (lo := 1) (hi := 60) (t := 0) (by decide) (show _ < 4 by omega) rfl
  rw [e17] at b18
  refine pm_iaload (len := 4) (v := y16) hC 98 rfl rfl (by decide) ⟨by decide, by decide⟩ (by decide) e17 dX12_works_68 ?_
  refine pm_aload_n hC 1 (by decide) dX12_works_69 rfl ?_
  refine pm_getf (v := 100) hC 90 fl_X12_40 rfl rfl (by decide) rfl e5 dX12_works_70 ?_
  refine pm_iload hC 0 dX12_works_73 rfl ?_
  refine pm_iconst (v := 1) hC dX12_works_75 ?_
  refine pm_iadd hC dX12_works_76 ?_
  obtain ⟨y19, e20⟩ : ∃ y, V0 100 (((4 * (a1 / 100)) + 1) : Int).toNat = y := ⟨_, rfl⟩
  have b21 := hV0.get 100 (((4 * (a1 / 100)) + 1) : Int).toNat (lo := (-30)) (hi := 30) (t := 0) (by decide) (show _ < 40 by omega) ((pm_qe_r (tb := pm_qB) (k := 100) (i := (((4 * (a1 / 100)) + 1) : Int).toNat) (m := 4) (r := 1) (l := [(-30, 30, 0), (-30, 30, 0), (0, 16, 0), (0, 3, 0)]) rfl rfl (by omega)).trans rfl)
  rw [e20] at b21
  refine pm_iaload (len := 40) (v := y19) hC 100 rfl rfl (by decide) ⟨by omega, by omega⟩ (by decide) e20 dX12_works_77 ?_
  refine pm_iadd hC dX12_works_78 ?_
  refine pm_aload_n hC 1 (by decide) dX12_works_79 rfl ?_
  refine pm_getf (v := 98) hC 90 fl_X12_34 rfl rfl (by decide) rfl e1 dX12_works_80 ?_
  refine pm_iconst (v := 3) hC dX12_works_83 ?_
  obtain ⟨y22, e23⟩ : ∃ y, V0 98 (3 : Int).toNat = y := ⟨_, rfl⟩
  have b24 := hV0.get 98 (3 : Int).toNat (lo := 0) (hi := 9) (t := 0) (by decide) (show _ < 4 by omega) rfl
  rw [e23] at b24
  refine pm_iaload (len := 4) (v := y22) hC 98 rfl rfl (by decide) ⟨by decide, by decide⟩ (by decide) e23 dX12_works_84 ?_
  refine pm_iload_n hC 3 dX12_works_85 rfl ?_
  refine pm_bipush (v := 10) hC dX12_works_86 (by decide) ?_
  refine pm_irem hC ⟨by omega, by omega, by omega⟩ ⟨by decide, by decide, by decide⟩ dX12_works_88 ?_
  refine pm_imul hC dX12_works_89 ?_
  have b26 : 0 ≤ (y22 * (a2 % 10)) ∧ (y22 * (a2 % 10)) ≤ 81 := pm_mulb (by omega) (by omega) (show y22 ≤ 9 by omega) (show (a2 % 10) ≤ 9 by omega) (by decide)
  generalize (y22 * (a2 % 10)) = y25 at b26 ⊢
  refine pm_iadd hC dX12_works_90 ?_
  refine pm_mmax hC 7047 4012 1018 4013 ⟨by decide, by decide⟩ ⟨by omega, by omega⟩ (by decide) wL_X12_311 wS_mmax wI_math wC_mmax (Nat.le_of_ble_eq_true rfl) dX12_works_91 (fun y27 b28 => ?_)
  replace b28 : 1 ≤ y27 ∧ y27 ≤ 171 ∧ 1 ≤ y27 ∧ ((y16 + y19) + y25) ≤ y27 := ⟨by omega, by omega, b28.1, b28.2.1⟩
  refine pm_putf hC 90 fl_X12_320 rfl rfl rfl (by decide) rfl trivial dX12_works_94 ?_
  refine pm_iconst (v := 1) hC dX12_works_97 ?_
  refine pm_aload_n hC 1 (by decide) dX12_works_98 rfl ?_
  obtain ⟨y29, e30⟩ : ∃ y, V0 90 20 = y := ⟨_, rfl⟩
  have b31 := hV0.get 90 20 (lo := 1) (hi := 99) (by decide) (by decide) rfl
  rw [e30] at b31
  refine pm_getf (v := y29) hC 90 fl_X12_229 rfl rfl (by decide) rfl e30 dX12_works_99 ?_
  refine pm_iconst (v := 2) hC dX12_works_102 ?_
  refine pm_idiv hC ⟨by omega, by omega, by omega⟩ ⟨by decide, by decide, by decide⟩ dX12_works_103 ?_
  refine pm_mmax hC 7047 4012 1018 4013 ⟨by decide, by decide⟩ ⟨by omega, by omega⟩ (by decide) wL_X12_311 wS_mmax wI_math wC_mmax (Nat.le_of_ble_eq_true rfl) dX12_works_104 (fun y32 b33 => ?_)
  replace b33 : 1 ≤ y32 ∧ y32 ≤ 49 ∧ 1 ≤ y32 ∧ (y29 / 2) ≤ y32 := ⟨by omega, by omega, b33.1, b33.2.1⟩
  refine pm_istore (lv' := [(5, (0, y32)), (4, (0, (4 * (a1 / 100)))), (0, (3, 90)), (1, (0, a1)), (2, (0, a2)), (3, (0, a3))]) hC dX12_works_107 (by decide) rfl ?_
  refine pm_aload_n hC 2 (by decide) dX12_works_109 rfl ?_
  refine pm_iconst (v := 0) hC dX12_works_110 ?_
  refine pm_aload_n hC 2 (by decide) dX12_works_111 rfl ?_
  refine pm_getf (v := 100) hC 90 fl_X12_40 rfl rfl (by decide) rfl e5 dX12_works_112 ?_
  refine pm_iload hC 1 dX12_works_115 rfl ?_
  refine pm_iconst (v := 2) hC dX12_works_117 ?_
  refine pm_iadd hC dX12_works_118 ?_
  obtain ⟨y34, e35⟩ : ∃ y, V0 100 (((4 * (a1 / 100)) + 2) : Int).toNat = y := ⟨_, rfl⟩
  have b36 := hV0.get 100 (((4 * (a1 / 100)) + 2) : Int).toNat (lo := 0) (hi := 16) (t := 0) (by decide) (show _ < 40 by omega) ((pm_qe_r (tb := pm_qB) (k := 100) (i := (((4 * (a1 / 100)) + 2) : Int).toNat) (m := 4) (r := 2) (l := [(-30, 30, 0), (-30, 30, 0), (0, 16, 0), (0, 3, 0)]) rfl rfl (by omega)).trans rfl)
  rw [e35] at b36
  refine pm_iaload (len := 40) (v := y34) hC 100 rfl rfl (by decide) ⟨by omega, by omega⟩ (by decide) e35 dX12_works_119 ?_
  refine pm_iload_n hC 5 dX12_works_120 rfl ?_
  refine pm_if_lt (tgt := 133) hC ⟨by omega, by omega⟩ dX12_works_121 (by decide) (fun c37 => ?_) (fun c37 => ?_)
  · skip
    refine pm_iload_n hC 5 dX12_works_133 rfl ?_
    refine pm_ineg hC dX12_works_134 ?_
    refine pm_iload hC 0 dX12_works_135 rfl ?_
    refine pm_idiv hC ⟨by omega, by omega, by omega⟩ ⟨by omega, by omega, by omega⟩ dX12_works_137 ?_
    have b39 := pm_divb (x := (-a3)) (y := y32) (by omega) (by omega)
    generalize ((-a3) / y32) = y38 at b39 ⊢
    refine pm_isub hC dX12_works_138 ?_
    refine pm_mmax hC 7047 4012 1018 4013 ⟨by decide, by decide⟩ ⟨by omega, by omega⟩ (by decide) wL_X12_311 wS_mmax wI_math wC_mmax (Nat.le_of_ble_eq_true rfl) dX12_works_139 (fun y40 b41 => ?_)
    replace b41 : 0 ≤ y40 ∧ y40 ≤ 16 ∧ 0 ≤ y40 ∧ (y34 - y38) ≤ y40 := ⟨by omega, by omega, b41.1, b41.2.1⟩
    refine pm_putf hC 90 fl_X12_323 rfl rfl rfl (by decide) rfl trivial dX12_works_142 ?_
    refine pm_aload_n hC 2 (by decide) dX12_works_145 rfl ?_
    refine pm_lconst (x := 0) hC dX12_works_146 rfl ?_
    refine pm_putf hC 90 fl_X12_326 rfl rfl rfl (by decide) rfl trivial dX12_works_147 ?_
    refine pm_aload_n hC 2 (by decide) dX12_works_150 rfl ?_
    refine pm_lconst (x := 0) hC dX12_works_151 rfl ?_
    refine pm_putf hC 90 fl_X12_329 rfl rfl rfl (by decide) rfl trivial dX12_works_152 ?_
    refine pm_aload_n hC 2 (by decide) dX12_works_155 rfl ?_
    refine pm_lconst (x := 0) hC dX12_works_156 rfl ?_
    refine pm_putf hC 90 fl_X12_332 rfl rfl rfl (by decide) rfl trivial dX12_works_157 ?_
    refine pm_iconst (v := 0) hC dX12_works_160 ?_
    refine pm_istore (lv' := [(6, (0, 0)), (5, (0, y32)), (4, (0, (4 * (a1 / 100)))), (0, (3, 90)), (1, (0, a1)), (2, (0, a2)), (3, (0, a3))]) hC dX12_works_161 (by decide) rfl ?_
    have hV44 := ((((((((hV0.put 90 48 (x := ((a1 / 10) % 10)) (lo := 0) (hi := 8) rfl ⟨by omega, by omega⟩).put 90 49 (x := (a1 % 10)) (lo := 0) (hi := 8) rfl ⟨by omega, by omega⟩).put 90 42 (x := y14) (lo := 0) (hi := 171) rfl ⟨by omega, by omega⟩).put 90 43 (x := y27) (lo := 0) (hi := 171) rfl ⟨by omega, by omega⟩).put 90 47 (x := y40) (lo := 0) (hi := 16) rfl ⟨by omega, by omega⟩).put 90 44 (x := 0) (lo := 0) (hi := 13851) rfl ⟨by decide, by decide⟩).put 90 45 (x := 0) (lo := 0) (hi := 1539) rfl ⟨by decide, by decide⟩).put 90 46 (x := 0) (lo := 0) (hi := 2368521) rfl ⟨by decide, by decide⟩)
    have hF45 := (((((((((pm_fs.rf (cs := [110, 111]) (fs := [42, 43, 44, 45, 46, 47, 48, 49]) (V := V0)).upf 48 ((a1 / 10) % 10) rfl).upf 49 (a1 % 10) rfl).upf 42 y14 rfl).upf 43 y27 rfl).upf 47 y40 rfl).upf 44 0 rfl).upf 45 0 rfl).upf 46 0 rfl)
    obtain ⟨V42, hv43⟩ : ∃ V, V = (pm_up (pm_up (pm_up (pm_up (pm_up (pm_up (pm_up (pm_up V0 90 48 ((a1 / 10) % 10)) 90 49 (a1 % 10)) 90 42 y14) 90 43 y27) 90 47 y40) 90 44 0) 90 45 0) 90 46 0) := ⟨_, rfl⟩
    rw [← hv43] at hV44 hF45
    rw [← hv43]
    have e46 : V42 90 18 = 98 := by rw [hv43]; exact e1
    have e47 : V42 90 24 = 100 := by rw [hv43]; exact e5
    have e48 : V42 90 20 = y29 := by rw [hv43]; exact e30
    have e49 : V42 90 48 = ((a1 / 10) % 10) := by rw [hv43]; rfl
    have e50 : V42 90 49 = (a1 % 10) := by rw [hv43]; rfl
    have e51 : V42 90 42 = y14 := by rw [hv43]; rfl
    have e52 : V42 90 43 = y27 := by rw [hv43]; rfl
    have e53 : V42 90 47 = y40 := by rw [hv43]; rfl
    have e54 : V42 90 44 = 0 := by rw [hv43]; rfl
    have e55 : V42 90 45 = 0 := by rw [hv43]; rfl
    have e56 : V42 90 46 = 0 := by rw [hv43]; rfl
    have hp57 : pm_h1 V42 := by rw [hv43]; exact (pm_h1.fr hn_pm_h1 rfl rfl)
    have L78 : ∀ (N80 : Nat) (x58 : Int) (V60 : pm_M), (0 ≤ x58 ∧ x58 ≤ 9) → pm_oq pm_qB V60 → pm_fs [110, 111] [42, 43, 44, 45, 46, 47, 48, 49] V0 V60 → V60 90 18 = 98 → V60 90 24 = 100 → V60 90 20 = y29 → V60 90 48 = ((a1 / 10) % 10) → V60 90 49 = (a1 % 10) → V60 90 42 = y14 → V60 90 43 = y27 → V60 90 47 = y40 → pm_h1 V60 → (V60 90 44 ≤ 1539 * x58) → (V60 90 45 ≤ 171 * x58) → (V60 90 46 ≤ 263169 * x58) → (((a1 / 10) % 10) < x58 → 1 ≤ V60 110 (((a1 / 10) % 10)).toNat) → ((a1 % 10) < x58 → 1 ≤ V60 111 ((a1 % 10)).toNat) → (1 ≤ V60 90 46 → ∃ q : Nat, (q : Int) < x58 ∧ 1 ≤ V60 110 q ∧ 1 ≤ V60 111 q) → (Int.toNat (9 - x58)) = N80 → pm_J X 163 [(0, (3, 90)), (1, (0, a1)), (2, (0, a2)), (3, (0, a3)), (4, (0, (4 * (a1 / 100)))), (5, (0, y32)), (6, (0, x58))] [] 118 V60 := by
      intro N80
      induction N80 using Nat.strongRecOn with
      | _ N80 ih81 =>
      intro x58 V60 b59 hV61 hF62 e63 e64 e65 e66 e67 e68 e69 e70 hp71 hm72 hm73 hm74 hx75 hx76 hx77 hm79
      refine pm_iload hC 6 dX12_works_163 rfl ?_
      refine pm_aload_n hC 0 (by decide) dX12_works_165 rfl ?_
      obtain ⟨y82, e83⟩ : ∃ y, V60 90 16 = y := ⟨_, rfl⟩
      have b84 := hV61.get 90 16 (lo := 2) (hi := 9) (by decide) (by decide) rfl
      rw [e83] at b84
      refine pm_getf (v := y82) hC 90 fl_X12_220 rfl rfl (by decide) rfl e83 dX12_works_166 ?_
      refine pm_icmp_ge (tgt := 337) hC ⟨by omega, by omega⟩ ⟨by omega, by omega⟩ dX12_works_169 (by decide) (fun c85 => ?_) (fun c85 => ?_)
      · skip
        have q86 : 1 ≤ V60 90 42 ∧ V60 90 42 ≤ 171 := by (have e : V60 90 42 = y14 := e68); rw [e]; exact ⟨by omega, by omega⟩
        have q87 : 1 ≤ V60 90 43 ∧ V60 90 43 ≤ 171 := by (have e : V60 90 43 = y27 := e69); rw [e]; exact ⟨by omega, by omega⟩
        exact pm_vret hC hR ⟨rfl, hV61, hF62, q86, q87, (by unfold pm_w1; rw [e66, e67, e83]; exact ⟨by omega, by omega, by omega, by omega, hx75 (by omega), hx76 (by omega)⟩), (by unfold pm_w3; rw [e83]; intro h; obtain ⟨q, q1, q2, q3⟩ := hx77 h; exact ⟨q, by omega, q2, q3⟩)⟩ dX12_works_337
      · skip
        refine pm_aload_n hC 0 (by decide) dX12_works_172 rfl ?_
        have e88 : V60 90 40 = 110 := hV61.one 90 40 (by decide) (by decide) rfl
        refine pm_getf (v := 110) hC 90 fl_X12_70 rfl rfl (by decide) rfl e88 dX12_works_173 ?_
        refine pm_iload hC 6 dX12_works_176 rfl ?_
        refine pm_iconst (v := 0) hC dX12_works_178 ?_
        refine pm_aload_n hC 0 (by decide) dX12_works_179 rfl ?_
        have e89 : V60 90 17 = 97 := hV61.one 90 17 (by decide) (by decide) rfl
        refine pm_getf (v := 97) hC 90 fl_X12_31 rfl rfl (by decide) rfl e89 dX12_works_180 ?_
        refine pm_iconst (v := 3) hC dX12_works_183 ?_
        refine pm_iload hC 6 dX12_works_184 rfl ?_
        refine pm_imul hC dX12_works_186 ?_
        refine pm_iconst (v := 2) hC dX12_works_187 ?_
        refine pm_iadd hC dX12_works_188 ?_
        obtain ⟨y90, e91⟩ : ∃ y, V60 97 (((3 * x58) + 2) : Int).toNat = y := ⟨_, rfl⟩
        have b92 := hV61.get 97 (((3 * x58) + 2) : Int).toNat (lo := 0) (hi := 9) (t := 0) (by decide) (show _ < 27 by omega) ((pm_qe_r (tb := pm_qB) (k := 97) (i := (((3 * x58) + 2) : Int).toNat) (m := 3) (r := 2) (l := [(0, 99, 0), (0, 99, 0), (0, 9, 0)]) rfl rfl (by omega)).trans rfl)
        rw [e91] at b92
        refine pm_iaload (len := 27) (v := y90) hC 97 rfl rfl (by decide) ⟨by omega, by omega⟩ (by decide) e91 dX12_works_189 ?_
        refine pm_aload_n hC 0 (by decide) dX12_works_190 rfl ?_
        refine pm_getf (v := y14) hC 90 fl_X12_317 rfl rfl (by decide) rfl e68 dX12_works_191 ?_
        refine pm_aload_n hC 0 (by decide) dX12_works_194 rfl ?_
        refine pm_iload hC 6 dX12_works_195 rfl ?_
        refine pm_callV (ci := 12) (as := [(0, x58)]) (st := [(0, y14), (0, y90), (0, 0), (0, x58), (3, 110)]) hC 90 (B_X12_x x58 ⟨by omega, by omega⟩) lm_X12_335 li_X12_x (by decide) (by decide) rfl rfl rfl (by decide) rfl rfl (Nat.le_of_ble_eq_true rfl) ⟨Nat.le_refl _, Or.inl rfl⟩ dX12_works_197 ⟨rfl, hV61⟩ (fun r93 V94 hp95 => ?_)
        obtain ⟨y96, rfl, b97, rfl⟩ := hp95
        change pm_J X 200 [(0, (3, 90)), (1, (0, a1)), (2, (0, a2)), (3, (0, a3)), (4, (0, (4 * (a1 / 100)))), (5, (0, y32)), (6, (0, x58))] [(0, y96), (0, y14), (0, y90), (0, 0), (0, x58), (3, 110)] 118 V60
        refine pm_aload_n hC 0 (by decide) dX12_works_200 rfl ?_
        refine pm_aload_n hC 0 (by decide) dX12_works_201 rfl ?_
        refine pm_getf (v := ((a1 / 10) % 10)) hC 90 fl_X12_305 rfl rfl (by decide) rfl e66 dX12_works_202 ?_
        refine pm_callV (ci := 12) (as := [(0, ((a1 / 10) % 10))]) (st := [(0, y96), (0, y14), (0, y90), (0, 0), (0, x58), (3, 110)]) hC 90 (B_X12_x ((a1 / 10) % 10) ⟨by omega, by omega⟩) lm_X12_335 li_X12_x (by decide) (by decide) rfl rfl rfl (by decide) rfl rfl (Nat.le_of_ble_eq_true rfl) ⟨Nat.le_refl _, Or.inl rfl⟩ dX12_works_205 ⟨rfl, hV61⟩ (fun r98 V99 hp100 => ?_)
        obtain ⟨y101, rfl, b102, rfl⟩ := hp100
        change pm_J X 208 [(0, (3, 90)), (1, (0, a1)), (2, (0, a2)), (3, (0, a3)), (4, (0, (4 * (a1 / 100)))), (5, (0, y32)), (6, (0, x58))] [(0, y101), (0, y96), (0, y14), (0, y90), (0, 0), (0, x58), (3, 110)] 118 V60
        refine pm_isub hC dX12_works_208 ?_
        refine pm_callS (as := [(0, (y96 - y101))]) (st := [(0, y14), (0, y90), (0, 0), (0, x58), (3, 110)]) hC (B_X12_far (y96 - y101) ⟨by omega, by omega⟩) lm_X12_338 ls_X12_far (by decide) (by decide) rfl rfl (Nat.le_of_ble_eq_true rfl) ⟨Nat.le_refl _, Or.inl rfl⟩ dX12_works_209 ⟨rfl, hV61⟩ (fun r103 V104 hp105 => ?_)
        obtain ⟨y106, rfl, b107, rfl⟩ := hp105
        change pm_J X 212 [(0, (3, 90)), (1, (0, a1)), (2, (0, a2)), (3, (0, a3)), (4, (0, (4 * (a1 / 100)))), (5, (0, y32)), (6, (0, x58))] [(0, y106), (0, y14), (0, y90), (0, 0), (0, x58), (3, 110)] 118 V60
        refine pm_isub hC dX12_works_212 ?_
        refine pm_aload_n hC 0 (by decide) dX12_works_213 rfl ?_
        refine pm_iload hC 6 dX12_works_214 rfl ?_
        refine pm_callV (ci := 12) (as := [(0, x58)]) (st := [(0, (y14 - y106)), (0, y90), (0, 0), (0, x58), (3, 110)]) hC 90 (B_X12_y x58 ⟨by omega, by omega⟩) lm_X12_341 li_X12_y (by decide) (by decide) rfl rfl rfl (by decide) rfl rfl (Nat.le_of_ble_eq_true rfl) ⟨Nat.le_refl _, Or.inl rfl⟩ dX12_works_216 ⟨rfl, hV61⟩ (fun r108 V109 hp110 => ?_)
        obtain ⟨y111, rfl, b112, rfl⟩ := hp110
        change pm_J X 219 [(0, (3, 90)), (1, (0, a1)), (2, (0, a2)), (3, (0, a3)), (4, (0, (4 * (a1 / 100)))), (5, (0, y32)), (6, (0, x58))] [(0, y111), (0, (y14 - y106)), (0, y90), (0, 0), (0, x58), (3, 110)] 118 V60
        refine pm_aload_n hC 0 (by decide) dX12_works_219 rfl ?_
        refine pm_aload_n hC 0 (by decide) dX12_works_220 rfl ?_
        refine pm_getf (v := ((a1 / 10) % 10)) hC 90 fl_X12_305 rfl rfl (by decide) rfl e66 dX12_works_221 ?_
        refine pm_callV (ci := 12) (as := [(0, ((a1 / 10) % 10))]) (st := [(0, y111), (0, (y14 - y106)), (0, y90), (0, 0), (0, x58), (3, 110)]) hC 90 (B_X12_y ((a1 / 10) % 10) ⟨by omega, by omega⟩) lm_X12_341 li_X12_y (by decide) (by decide) rfl rfl rfl (by decide) rfl rfl (Nat.le_of_ble_eq_true rfl) ⟨Nat.le_refl _, Or.inl rfl⟩ dX12_works_224 ⟨rfl, hV61⟩ (fun r113 V114 hp115 => ?_)
        obtain ⟨y116, rfl, b117, rfl⟩ := hp115
        change pm_J X 227 [(0, (3, 90)), (1, (0, a1)), (2, (0, a2)), (3, (0, a3)), (4, (0, (4 * (a1 / 100)))), (5, (0, y32)), (6, (0, x58))] [(0, y116), (0, y111), (0, (y14 - y106)), (0, y90), (0, 0), (0, x58), (3, 110)] 118 V60
        refine pm_isub hC dX12_works_227 ?_
        refine pm_callS (as := [(0, (y111 - y116))]) (st := [(0, (y14 - y106)), (0, y90), (0, 0), (0, x58), (3, 110)]) hC (B_X12_far (y111 - y116) ⟨by omega, by omega⟩) lm_X12_338 ls_X12_far (by decide) (by decide) rfl rfl (Nat.le_of_ble_eq_true rfl) ⟨Nat.le_refl _, Or.inl rfl⟩ dX12_works_228 ⟨rfl, hV61⟩ (fun r118 V119 hp120 => ?_)
        obtain ⟨y121, rfl, b122, rfl⟩ := hp120
        change pm_J X 231 [(0, (3, 90)), (1, (0, a1)), (2, (0, a2)), (3, (0, a3)), (4, (0, (4 * (a1 / 100)))), (5, (0, y32)), (6, (0, x58))] [(0, y121), (0, (y14 - y106)), (0, y90), (0, 0), (0, x58), (3, 110)] 118 V60
        refine pm_isub hC dX12_works_231 ?_
        refine pm_imul hC dX12_works_232 ?_
        have b124 : (-1773) ≤ (y90 * ((y14 - y106) - y121)) ∧ (y90 * ((y14 - y106) - y121)) ≤ 1539 := pm_mulg (a := 0) (b := 9) (c := (-197)) (d := 171) ⟨by omega, by omega⟩ ⟨by omega, by omega⟩ (by decide) (by decide)
        generalize hey123 : (y90 * ((y14 - y106) - y121)) = y123 at b124 ⊢
        refine pm_mmax hC 7047 4012 1018 4013 ⟨by decide, by decide⟩ ⟨by omega, by omega⟩ (by decide) wL_X12_311 wS_mmax wI_math wC_mmax (Nat.le_of_ble_eq_true rfl) dX12_works_233 (fun y125 b126 => ?_)
        replace b126 : 0 ≤ y125 ∧ y125 ≤ 1539 ∧ 0 ≤ y125 ∧ y123 ≤ y125 := ⟨by omega, by omega, b126.1, b126.2.1⟩
        have hv127 : ((a1 / 10) % 10) = x58 → 1 ≤ y125 := by
          intro hq
          have q1 : V60 97 (3 * x58).toNat = V60 97 (3 * ((a1 / 10) % 10)).toNat := by rw [hq]
          have q2 : V60 97 (3 * x58 + 1).toNat = V60 97 (3 * ((a1 / 10) % 10) + 1).toNat := by rw [hq]
          have hh := hp71 x58 (by omega) (by omega)
          have hfz0 : y106 = 0 := pm_far0 b107 (by omega)
          have hfz1 : y121 = 0 := pm_far0 b122 (by omega)
          have hp : 1 ≤ y90 * ((y14 - y106) - y121) := pm_mul1 (by omega) (by omega)
          omega
        refine pm_iastore (len := 9) hC 110 rfl rfl (by decide) ⟨by omega, by omega⟩ (by decide) dX12_works_236 ?_
        refine pm_aload_n hC 0 (by decide) dX12_works_237 rfl ?_
        have e128 : V60 90 41 = 111 := hV61.one 90 41 (by decide) (by decide) rfl
        refine pm_getf (v := 111) hC 90 fl_X12_73 rfl rfl (by decide) rfl e128 dX12_works_238 ?_
        refine pm_iload hC 6 dX12_works_241 rfl ?_
        refine pm_iconst (v := 0) hC dX12_works_243 ?_
        refine pm_aload_n hC 0 (by decide) dX12_works_244 rfl ?_
        refine pm_getf (v := y27) hC 90 fl_X12_320 rfl rfl (by decide) rfl e69 dX12_works_245 ?_
        refine pm_aload_n hC 0 (by decide) dX12_works_248 rfl ?_
        refine pm_iload hC 6 dX12_works_249 rfl ?_
        refine pm_callV (ci := 12) (as := [(0, x58)]) (st := [(0, y27), (0, 0), (0, x58), (3, 111)]) hC 90 (B_X12_x x58 ⟨by omega, by omega⟩) lm_X12_335 li_X12_x (by decide) (by decide) rfl rfl rfl (by decide) rfl rfl (Nat.le_of_ble_eq_true rfl) ⟨Nat.le_refl _, Or.inl rfl⟩ dX12_works_251 ⟨rfl, (hV61.put 110 (x58 : Int).toNat (x := y125) (lo := 0) (hi := 1539) rfl ⟨by omega, by omega⟩)⟩ (fun r129 V130 hp131 => ?_)
        obtain ⟨y132, rfl, b133, rfl⟩ := hp131
        change pm_J X 254 [(0, (3, 90)), (1, (0, a1)), (2, (0, a2)), (3, (0, a3)), (4, (0, (4 * (a1 / 100)))), (5, (0, y32)), (6, (0, x58))] [(0, y132), (0, y27), (0, 0), (0, x58), (3, 111)] 118 (pm_up V60 110 (x58 : Int).toNat y125)
        refine pm_aload_n hC 0 (by decide) dX12_works_254 rfl ?_
        refine pm_aload_n hC 0 (by decide) dX12_works_255 rfl ?_
        refine pm_getf (v := (a1 % 10)) hC 90 fl_X12_308 rfl rfl (by decide) rfl e67 dX12_works_256 ?_
        refine pm_callV (ci := 12) (as := [(0, (a1 % 10))]) (st := [(0, y132), (0, y27), (0, 0), (0, x58), (3, 111)]) hC 90 (B_X12_x (a1 % 10) ⟨by omega, by omega⟩) lm_X12_335 li_X12_x (by decide) (by decide) rfl rfl rfl (by decide) rfl rfl (Nat.le_of_ble_eq_true rfl) ⟨Nat.le_refl _, Or.inl rfl⟩ dX12_works_259 ⟨rfl, (hV61.put 110 (x58 : Int).toNat (x := y125) (lo := 0) (hi := 1539) rfl ⟨by omega, by omega⟩)⟩ (fun r134 V135 hp136 => ?_)
        obtain ⟨y137, rfl, b138, rfl⟩ := hp136
        change pm_J X 262 [(0, (3, 90)), (1, (0, a1)), (2, (0, a2)), (3, (0, a3)), (4, (0, (4 * (a1 / 100)))), (5, (0, y32)), (6, (0, x58))] [(0, y137), (0, y132), (0, y27), (0, 0), (0, x58), (3, 111)] 118 (pm_up V60 110 (x58 : Int).toNat y125)
        refine pm_isub hC dX12_works_262 ?_
        refine pm_callS (as := [(0, (y132 - y137))]) (st := [(0, y27), (0, 0), (0, x58), (3, 111)]) hC (B_X12_far (y132 - y137) ⟨by omega, by omega⟩) lm_X12_338 ls_X12_far (by decide) (by decide) rfl rfl (Nat.le_of_ble_eq_true rfl) ⟨Nat.le_refl _, Or.inl rfl⟩ dX12_works_263 ⟨rfl, (hV61.put 110 (x58 : Int).toNat (x := y125) (lo := 0) (hi := 1539) rfl ⟨by omega, by omega⟩)⟩ (fun r139 V140 hp141 => ?_)
        obtain ⟨y142, rfl, b143, rfl⟩ := hp141
        change pm_J X 266 [(0, (3, 90)), (1, (0, a1)), (2, (0, a2)), (3, (0, a3)), (4, (0, (4 * (a1 / 100)))), (5, (0, y32)), (6, (0, x58))] [(0, y142), (0, y27), (0, 0), (0, x58), (3, 111)] 118 (pm_up V60 110 (x58 : Int).toNat y125)
        refine pm_isub hC dX12_works_266 ?_
        refine pm_mmax hC 7047 4012 1018 4013 ⟨by decide, by decide⟩ ⟨by omega, by omega⟩ (by decide) wL_X12_311 wS_mmax wI_math wC_mmax (Nat.le_of_ble_eq_true rfl) dX12_works_267 (fun y144 b145 => ?_)
        replace b145 : 0 ≤ y144 ∧ y144 ≤ 171 ∧ 0 ≤ y144 ∧ (y27 - y142) ≤ y144 := ⟨by omega, by omega, b145.1, b145.2.1⟩
        have hv146 : (a1 % 10) = x58 → 1 ≤ y144 := by
          intro hq
          have q1 : V60 97 (3 * x58).toNat = V60 97 (3 * (a1 % 10)).toNat := by rw [hq]
          have hfz0 : y142 = 0 := pm_far0 b143 (by omega)
          omega
        refine pm_iastore (len := 9) hC 111 rfl rfl (by decide) ⟨by omega, by omega⟩ (by decide) dX12_works_270 ?_
        refine pm_aload_n hC 0 (by decide) dX12_works_271 rfl ?_
        refine pm_dup hC rfl dX12_works_272 ?_
        obtain ⟨y147, e148⟩ : ∃ y, V60 90 44 = y := ⟨_, rfl⟩
        have b149 := hV61.get 90 44 (lo := 0) (hi := 13851) (by decide) (by decide) rfl
        rw [e148] at b149
        refine pm_getf (v := y147) hC 90 fl_X12_326 rfl rfl (by decide) rfl e148 dX12_works_273 ?_
        refine pm_aload_n hC 0 (by decide) dX12_works_276 rfl ?_
        refine pm_getf (v := 110) hC 90 fl_X12_70 rfl rfl (by decide) rfl e88 dX12_works_277 ?_
        refine pm_iload hC 6 dX12_works_280 rfl ?_
        have hV152 := ((hV61.put 110 (x58 : Int).toNat (x := y125) (lo := 0) (hi := 1539) rfl ⟨by omega, by omega⟩).put 111 (x58 : Int).toNat (x := y144) (lo := 0) (hi := 171) rfl ⟨by omega, by omega⟩)
        have hF153 := ((hF62.up 110 (x58 : Int).toNat y125 (by decide) rfl).up 111 (x58 : Int).toNat y144 (by decide) rfl)
        obtain ⟨V150, hv151⟩ : ∃ V, V = (pm_up (pm_up V60 110 (x58 : Int).toNat y125) 111 (x58 : Int).toNat y144) := ⟨_, rfl⟩
        rw [← hv151] at hV152 hF153
        rw [← hv151]
        have e154 : V150 90 18 = 98 := by rw [hv151]; exact e63
        have e155 : V150 90 24 = 100 := by rw [hv151]; exact e64
        have e156 : V150 90 20 = y29 := by rw [hv151]; exact e65
        have e157 : V150 90 48 = ((a1 / 10) % 10) := by rw [hv151]; exact e66
        have e158 : V150 90 49 = (a1 % 10) := by rw [hv151]; exact e67
        have e159 : V150 90 42 = y14 := by rw [hv151]; exact e68
        have e160 : V150 90 43 = y27 := by rw [hv151]; exact e69
        have e161 : V150 90 47 = y40 := by rw [hv151]; exact e70
        have e162 : V150 90 16 = y82 := by rw [hv151]; exact e83
        have e163 : V150 90 40 = 110 := by rw [hv151]; exact e88
        have e164 : V150 90 17 = 97 := by rw [hv151]; exact e89
        have e165 : V150 90 41 = 111 := by rw [hv151]; exact e128
        have e166 : V150 90 44 = y147 := by rw [hv151]; exact e148
        have hp167 : pm_h1 V150 := by rw [hv151]; exact (pm_h1.fr hp71 rfl rfl)
        obtain ⟨y168, e169⟩ : ∃ y, V150 110 (x58 : Int).toNat = y := ⟨_, rfl⟩
        have b170 := hV152.get 110 (x58 : Int).toNat (lo := 0) (hi := 1539) (t := 0) (by decide) (show _ < 9 by omega) rfl
        rw [e169] at b170
        refine pm_iaload (len := 9) (v := y168) hC 110 rfl rfl (by decide) ⟨by omega, by omega⟩ (by decide) e169 dX12_works_282 ?_
        refine pm_i2l hC ⟨by omega, by omega⟩ dX12_works_283 ?_
        refine pm_ladd hC dX12_works_284 ?_
        refine pm_putf hC 90 fl_X12_326 rfl rfl rfl (by decide) rfl trivial dX12_works_285 ?_
        refine pm_aload_n hC 0 (by decide) dX12_works_288 rfl ?_
        refine pm_dup hC rfl dX12_works_289 ?_
        obtain ⟨y171, e172⟩ : ∃ y, V150 90 45 = y := ⟨_, rfl⟩
        have b173 := hV152.get 90 45 (lo := 0) (hi := 1539) (by decide) (by decide) rfl
        rw [e172] at b173
        refine pm_getf (v := y171) hC 90 fl_X12_329 rfl rfl (by decide) rfl e172 dX12_works_290 ?_
        refine pm_aload_n hC 0 (by decide) dX12_works_293 rfl ?_
        refine pm_getf (v := 111) hC 90 fl_X12_73 rfl rfl (by decide) rfl e165 dX12_works_294 ?_
        refine pm_iload hC 6 dX12_works_297 rfl ?_
        obtain ⟨y174, e175⟩ : ∃ y, V150 111 (x58 : Int).toNat = y := ⟨_, rfl⟩
        have b176 := hV152.get 111 (x58 : Int).toNat (lo := 0) (hi := 171) (t := 0) (by decide) (show _ < 9 by omega) rfl
        rw [e175] at b176
        refine pm_iaload (len := 9) (v := y174) hC 111 rfl rfl (by decide) ⟨by omega, by omega⟩ (by decide) e175 dX12_works_299 ?_
        refine pm_i2l hC ⟨by omega, by omega⟩ dX12_works_300 ?_
        refine pm_ladd hC dX12_works_301 ?_
        refine pm_putf hC 90 fl_X12_329 rfl rfl rfl (by decide) rfl trivial dX12_works_302 ?_
        refine pm_aload_n hC 0 (by decide) dX12_works_305 rfl ?_
        refine pm_dup hC rfl dX12_works_306 ?_
        obtain ⟨y177, e178⟩ : ∃ y, V150 90 46 = y := ⟨_, rfl⟩
        have b179 := hV152.get 90 46 (lo := 0) (hi := 2368521) (by decide) (by decide) rfl
        rw [e178] at b179
        refine pm_getf (v := y177) hC 90 fl_X12_332 rfl rfl (by decide) rfl e178 dX12_works_307 ?_
        refine pm_aload_n hC 0 (by decide) dX12_works_310 rfl ?_
        refine pm_getf (v := 110) hC 90 fl_X12_70 rfl rfl (by decide) rfl e163 dX12_works_311 ?_
        refine pm_iload hC 6 dX12_works_314 rfl ?_
        refine pm_iaload (len := 9) (v := y168) hC 110 rfl rfl (by decide) ⟨by omega, by omega⟩ (by decide) e169 dX12_works_316 ?_
        refine pm_i2l hC ⟨by omega, by omega⟩ dX12_works_317 ?_
        refine pm_aload_n hC 0 (by decide) dX12_works_318 rfl ?_
        refine pm_getf (v := 111) hC 90 fl_X12_73 rfl rfl (by decide) rfl e165 dX12_works_319 ?_
        refine pm_iload hC 6 dX12_works_322 rfl ?_
        refine pm_iaload (len := 9) (v := y174) hC 111 rfl rfl (by decide) ⟨by omega, by omega⟩ (by decide) e175 dX12_works_324 ?_
        refine pm_i2l hC ⟨by omega, by omega⟩ dX12_works_325 ?_
        refine pm_lmul hC dX12_works_326 ?_
        have b181 : 0 ≤ (y168 * y174) ∧ (y168 * y174) ≤ 263169 := pm_mulb (by omega) (by omega) (show y168 ≤ 1539 by omega) (show y174 ≤ 171 by omega) (by decide)
        generalize hey180 : (y168 * y174) = y180 at b181 ⊢
        refine pm_ladd hC dX12_works_327 ?_
        refine pm_putf hC 90 fl_X12_332 rfl rfl rfl (by decide) rfl trivial dX12_works_328 ?_
        obtain ⟨x182, ei183⟩ : ∃ y : Int, x58 + 1 = y := ⟨_, rfl⟩
        refine pm_iinc (y := x182) (lv' := [(6, (0, x182)), (0, (3, 90)), (1, (0, a1)), (2, (0, a2)), (3, (0, a3)), (4, (0, (4 * (a1 / 100)))), (5, (0, y32))]) hC 6 dX12_works_331 (by decide) rfl ei183 rfl ?_
        refine pm_goto (tgt := 163) hC dX12_works_334 (by decide) ?_
        refine pm_lvsub [1, 2, 3, 4, 5, 6, 0] (lv' := [(0, (3, 90)), (1, (0, a1)), (2, (0, a2)), (3, (0, a3)), (4, (0, (4 * (a1 / 100)))), (5, (0, y32)), (6, (0, x182))]) rfl ?_
        exact <function pw3 at 0x7f8ea6b85c60> _ (by omega) x182 (pm_up (pm_up (pm_up V150 90 44 (y147 + y168)) 90 45 (y171 + y174)) 90 46 (y177 + y180)) ⟨by omega, by omega⟩ (((hV152.put 90 44 (x := (y147 + y168)) (lo := 0) (hi := 13851) rfl ⟨by omega, by omega⟩).put 90 45 (x := (y171 + y174)) (lo := 0) (hi := 1539) rfl ⟨by omega, by omega⟩).put 90 46 (x := (y177 + y180)) (lo := 0) (hi := 2368521) rfl ⟨by omega, by omega⟩) (((hF153.upf 44 (y147 + y168) rfl).upf 45 (y171 + y174) rfl).upf 46 (y177 + y180) rfl) e154 e155 e156 e157 e158 e159 e160 e161 (pm_h1.fr hp167 rfl rfl) (show (y147 + y168) ≤ 1539 * x182 by omega) (show (y171 + y174) ≤ 171 * x182 by omega) (show (y177 + y180) ≤ 263169 * x182 by omega) (fun h => by show 1 ≤ V150 110 (((a1 / 10) % 10)).toNat; rw [hv151]; exact pm_up_get (V := V60) (k := 110) (i := x58) (a := ((a1 / 10) % 10)) (x := y125) (p := fun z => 1 ≤ z) (by omega) (by omega) hv127 (fun hne => hx75 (by omega))) (fun h => by show 1 ≤ V150 111 ((a1 % 10)).toNat; rw [hv151]; exact pm_up_get (V := V60) (k := 111) (i := x58) (a := (a1 % 10)) (x := y144) (p := fun z => 1 ≤ z) (by omega) (by omega) hv146 (fun hne => hx76 (by omega))) (fun h => by have h9 : 1 ≤ (y177 + y180) := h; (by_cases hy : 1 ≤ y180); (have hm : y168 * y174 = y180 := hey180; obtain ⟨m1, m2⟩ := pm_mulpos (x := y168) (y := y174) (by omega) (by omega) (by rw [hm]; exact hy); exact ⟨((x58) : Int).toNat, by omega, by (show 1 ≤ V150 110 ((x58) : Int).toNat; rw [e169]; exact m1), by (show 1 ≤ V150 111 ((x58) : Int).toNat; rw [e175]; exact m2)⟩); (obtain ⟨q, q1, q2, q3⟩ := hx77 (by (have h46 : V60 90 46 = V150 90 46 := by rw [hv151]; rfl); rw [h46, e178]; omega); exact ⟨q, by omega, by (show 1 ≤ V150 110 q; rw [hv151, pm_up_c (by decide), pm_up_i (by omega)]; exact q2), by (show 1 ≤ V150 111 q; rw [hv151, pm_up_i (by omega), pm_up_c (by decide)]; exact q3)⟩)) rfl
    refine pm_lvsub [3, 4, 5, 6, 2, 1, 0] (lv' := [(0, (3, 90)), (1, (0, a1)), (2, (0, a2)), (3, (0, a3)), (4, (0, (4 * (a1 / 100)))), (5, (0, y32)), (6, (0, 0))]) rfl ?_
    exact <function pw3 at 0x7f8ea6b85c60> _ 0 V42 ⟨by decide, by decide⟩ hV44 hF45 e46 e47 e48 e49 e50 e51 e52 e53 hp57 (by (have e : V42 90 44 = 0 := e54); rw [e]; omega) (by (have e : V42 90 45 = 0 := e55); rw [e]; omega) (by (have e : V42 90 46 = 0 := e56); rw [e]; omega) (fun h => absurd h (by omega)) (fun h => absurd h (by omega)) (fun h => absurd h (by rw [e56]; decide)) rfl
  · skip
    refine pm_iload_n hC 5 dX12_works_124 rfl ?_
    refine pm_aload_n hC 2 (by decide) dX12_works_125 rfl ?_
    refine pm_getf (v := y29) hC 90 fl_X12_229 rfl rfl (by decide) rfl e30 dX12_works_126 ?_
    refine pm_idiv hC ⟨by omega, by omega, by omega⟩ ⟨by omega, by omega, by omega⟩ dX12_works_129 ?_
    have b185 := pm_divb (x := a3) (y := y29) (by omega) (by omega)
    generalize (a3 / y29) = y184 at b185 ⊢
    refine pm_goto (tgt := 138) hC dX12_works_130 (by decide) ?_
    refine pm_isub hC dX12_works_138 ?_
    refine pm_mmax hC 7047 4012 1018 4013 ⟨by decide, by decide⟩ ⟨by omega, by omega⟩ (by decide) wL_X12_311 wS_mmax wI_math wC_mmax (Nat.le_of_ble_eq_true rfl) dX12_works_139 (fun y186 b187 => ?_)
    replace b187 : 0 ≤ y186 ∧ y186 ≤ 16 ∧ 0 ≤ y186 ∧ (y34 - y184) ≤ y186 := ⟨by omega, by omega, b187.1, b187.2.1⟩
    refine pm_putf hC 90 fl_X12_323 rfl rfl rfl (by decide) rfl trivial dX12_works_142 ?_
    refine pm_aload_n hC 2 (by decide) dX12_works_145 rfl ?_
    refine pm_lconst (x := 0) hC dX12_works_146 rfl ?_
    refine pm_putf hC 90 fl_X12_326 rfl rfl rfl (by decide) rfl trivial dX12_works_147 ?_
    refine pm_aload_n hC 2 (by decide) dX12_works_150 rfl ?_
    refine pm_lconst (x := 0) hC dX12_works_151 rfl ?_
    refine pm_putf hC 90 fl_X12_329 rfl rfl rfl (by decide) rfl trivial dX12_works_152 ?_
    refine pm_aload_n hC 2 (by decide) dX12_works_155 rfl ?_
    refine pm_lconst (x := 0) hC dX12_works_156 rfl ?_
    refine pm_putf hC 90 fl_X12_332 rfl rfl rfl (by decide) rfl trivial dX12_works_157 ?_
    refine pm_iconst (v := 0) hC dX12_works_160 ?_
    refine pm_istore (lv' := [(6, (0, 0)), (5, (0, y32)), (4, (0, (4 * (a1 / 100)))), (0, (3, 90)), (1, (0, a1)), (2, (0, a2)), (3, (0, a3))]) hC dX12_works_161 (by decide) rfl ?_
    have hV190 := ((((((((hV0.put 90 48 (x := ((a1 / 10) % 10)) (lo := 0) (hi := 8) rfl ⟨by omega, by omega⟩).put 90 49 (x := (a1 % 10)) (lo := 0) (hi := 8) rfl ⟨by omega, by omega⟩).put 90 42 (x := y14) (lo := 0) (hi := 171) rfl ⟨by omega, by omega⟩).put 90 43 (x := y27) (lo := 0) (hi := 171) rfl ⟨by omega, by omega⟩).put 90 47 (x := y186) (lo := 0) (hi := 16) rfl ⟨by omega, by omega⟩).put 90 44 (x := 0) (lo := 0) (hi := 13851) rfl ⟨by decide, by decide⟩).put 90 45 (x := 0) (lo := 0) (hi := 1539) rfl ⟨by decide, by decide⟩).put 90 46 (x := 0) (lo := 0) (hi := 2368521) rfl ⟨by decide, by decide⟩)
    have hF191 := (((((((((pm_fs.rf (cs := [110, 111]) (fs := [42, 43, 44, 45, 46, 47, 48, 49]) (V := V0)).upf 48 ((a1 / 10) % 10) rfl).upf 49 (a1 % 10) rfl).upf 42 y14 rfl).upf 43 y27 rfl).upf 47 y186 rfl).upf 44 0 rfl).upf 45 0 rfl).upf 46 0 rfl)
    obtain ⟨V188, hv189⟩ : ∃ V, V = (pm_up (pm_up (pm_up (pm_up (pm_up (pm_up (pm_up (pm_up V0 90 48 ((a1 / 10) % 10)) 90 49 (a1 % 10)) 90 42 y14) 90 43 y27) 90 47 y186) 90 44 0) 90 45 0) 90 46 0) := ⟨_, rfl⟩
    rw [← hv189] at hV190 hF191
    rw [← hv189]
    have e192 : V188 90 18 = 98 := by rw [hv189]; exact e1
    have e193 : V188 90 24 = 100 := by rw [hv189]; exact e5
    have e194 : V188 90 20 = y29 := by rw [hv189]; exact e30
    have e195 : V188 90 48 = ((a1 / 10) % 10) := by rw [hv189]; rfl
    have e196 : V188 90 49 = (a1 % 10) := by rw [hv189]; rfl
    have e197 : V188 90 42 = y14 := by rw [hv189]; rfl
    have e198 : V188 90 43 = y27 := by rw [hv189]; rfl
    have e199 : V188 90 47 = y186 := by rw [hv189]; rfl
    have e200 : V188 90 44 = 0 := by rw [hv189]; rfl
    have e201 : V188 90 45 = 0 := by rw [hv189]; rfl
    have e202 : V188 90 46 = 0 := by rw [hv189]; rfl
    have hp203 : pm_h1 V188 := by rw [hv189]; exact (pm_h1.fr hn_pm_h1 rfl rfl)
    have L224 : ∀ (N226 : Nat) (x204 : Int) (V206 : pm_M), (0 ≤ x204 ∧ x204 ≤ 9) → pm_oq pm_qB V206 → pm_fs [110, 111] [42, 43, 44, 45, 46, 47, 48, 49] V0 V206 → V206 90 18 = 98 → V206 90 24 = 100 → V206 90 20 = y29 → V206 90 48 = ((a1 / 10) % 10) → V206 90 49 = (a1 % 10) → V206 90 42 = y14 → V206 90 43 = y27 → V206 90 47 = y186 → pm_h1 V206 → (V206 90 44 ≤ 1539 * x204) → (V206 90 45 ≤ 171 * x204) → (V206 90 46 ≤ 263169 * x204) → (((a1 / 10) % 10) < x204 → 1 ≤ V206 110 (((a1 / 10) % 10)).toNat) → ((a1 % 10) < x204 → 1 ≤ V206 111 ((a1 % 10)).toNat) → (1 ≤ V206 90 46 → ∃ q : Nat, (q : Int) < x204 ∧ 1 ≤ V206 110 q ∧ 1 ≤ V206 111 q) → (Int.toNat (9 - x204)) = N226 → pm_J X 163 [(0, (3, 90)), (1, (0, a1)), (2, (0, a2)), (3, (0, a3)), (4, (0, (4 * (a1 / 100)))), (5, (0, y32)), (6, (0, x204))] [] 118 V206 := by
      intro N226
      induction N226 using Nat.strongRecOn with
      | _ N226 ih227 =>
      intro x204 V206 b205 hV207 hF208 e209 e210 e211 e212 e213 e214 e215 e216 hp217 hm218 hm219 hm220 hx221 hx222 hx223 hm225
      refine pm_iload hC 6 dX12_works_163 rfl ?_
      refine pm_aload_n hC 0 (by decide) dX12_works_165 rfl ?_
      obtain ⟨y228, e229⟩ : ∃ y, V206 90 16 = y := ⟨_, rfl⟩
      have b230 := hV207.get 90 16 (lo := 2) (hi := 9) (by decide) (by decide) rfl
      rw [e229] at b230
      refine pm_getf (v := y228) hC 90 fl_X12_220 rfl rfl (by decide) rfl e229 dX12_works_166 ?_
      refine pm_icmp_ge (tgt := 337) hC ⟨by omega, by omega⟩ ⟨by omega, by omega⟩ dX12_works_169 (by decide) (fun c231 => ?_) (fun c231 => ?_)
      · skip
        have q232 : 1 ≤ V206 90 42 ∧ V206 90 42 ≤ 171 := by (have e : V206 90 42 = y14 := e214); rw [e]; exact ⟨by omega, by omega⟩
        have q233 : 1 ≤ V206 90 43 ∧ V206 90 43 ≤ 171 := by (have e : V206 90 43 = y27 := e215); rw [e]; exact ⟨by omega, by omega⟩
        exact pm_vret hC hR ⟨rfl, hV207, hF208, q232, q233, (by unfold pm_w1; rw [e212, e213, e229]; exact ⟨by omega, by omega, by omega, by omega, hx221 (by omega), hx222 (by omega)⟩), (by unfold pm_w3; rw [e229]; intro h; obtain ⟨q, q1, q2, q3⟩ := hx223 h; exact ⟨q, by omega, q2, q3⟩)⟩ dX12_works_337
      · skip
        refine pm_aload_n hC 0 (by decide) dX12_works_172 rfl ?_
        have e234 : V206 90 40 = 110 := hV207.one 90 40 (by decide) (by decide) rfl
        refine pm_getf (v := 110) hC 90 fl_X12_70 rfl rfl (by decide) rfl e234 dX12_works_173 ?_
        refine pm_iload hC 6 dX12_works_176 rfl ?_
        refine pm_iconst (v := 0) hC dX12_works_178 ?_
        refine pm_aload_n hC 0 (by decide) dX12_works_179 rfl ?_
        have e235 : V206 90 17 = 97 := hV207.one 90 17 (by decide) (by decide) rfl
        refine pm_getf (v := 97) hC 90 fl_X12_31 rfl rfl (by decide) rfl e235 dX12_works_180 ?_
        refine pm_iconst (v := 3) hC dX12_works_183 ?_
        refine pm_iload hC 6 dX12_works_184 rfl ?_
        refine pm_imul hC dX12_works_186 ?_
        refine pm_iconst (v := 2) hC dX12_works_187 ?_
        refine pm_iadd hC dX12_works_188 ?_
        obtain ⟨y236, e237⟩ : ∃ y, V206 97 (((3 * x204) + 2) : Int).toNat = y := ⟨_, rfl⟩
        have b238 := hV207.get 97 (((3 * x204) + 2) : Int).toNat (lo := 0) (hi := 9) (t := 0) (by decide) (show _ < 27 by omega) ((pm_qe_r (tb := pm_qB) (k := 97) (i := (((3 * x204) + 2) : Int).toNat) (m := 3) (r := 2) (l := [(0, 99, 0), (0, 99, 0), (0, 9, 0)]) rfl rfl (by omega)).trans rfl)
        rw [e237] at b238
        refine pm_iaload (len := 27) (v := y236) hC 97 rfl rfl (by decide) ⟨by omega, by omega⟩ (by decide) e237 dX12_works_189 ?_
        refine pm_aload_n hC 0 (by decide) dX12_works_190 rfl ?_
        refine pm_getf (v := y14) hC 90 fl_X12_317 rfl rfl (by decide) rfl e214 dX12_works_191 ?_
        refine pm_aload_n hC 0 (by decide) dX12_works_194 rfl ?_
        refine pm_iload hC 6 dX12_works_195 rfl ?_
        refine pm_callV (ci := 12) (as := [(0, x204)]) (st := [(0, y14), (0, y236), (0, 0), (0, x204), (3, 110)]) hC 90 (B_X12_x x204 ⟨by omega, by omega⟩) lm_X12_335 li_X12_x (by decide) (by decide) rfl rfl rfl (by decide) rfl rfl (Nat.le_of_ble_eq_true rfl) ⟨Nat.le_refl _, Or.inl rfl⟩ dX12_works_197 ⟨rfl, hV207⟩ (fun r239 V240 hp241 => ?_)
        obtain ⟨y242, rfl, b243, rfl⟩ := hp241
        change pm_J X 200 [(0, (3, 90)), (1, (0, a1)), (2, (0, a2)), (3, (0, a3)), (4, (0, (4 * (a1 / 100)))), (5, (0, y32)), (6, (0, x204))] [(0, y242), (0, y14), (0, y236), (0, 0), (0, x204), (3, 110)] 118 V206
        refine pm_aload_n hC 0 (by decide) dX12_works_200 rfl ?_
        refine pm_aload_n hC 0 (by decide) dX12_works_201 rfl ?_
        refine pm_getf (v := ((a1 / 10) % 10)) hC 90 fl_X12_305 rfl rfl (by decide) rfl e212 dX12_works_202 ?_
        refine pm_callV (ci := 12) (as := [(0, ((a1 / 10) % 10))]) (st := [(0, y242), (0, y14), (0, y236), (0, 0), (0, x204), (3, 110)]) hC 90 (B_X12_x ((a1 / 10) % 10) ⟨by omega, by omega⟩) lm_X12_335 li_X12_x (by decide) (by decide) rfl rfl rfl (by decide) rfl rfl (Nat.le_of_ble_eq_true rfl) ⟨Nat.le_refl _, Or.inl rfl⟩ dX12_works_205 ⟨rfl, hV207⟩ (fun r244 V245 hp246 => ?_)
        obtain ⟨y247, rfl, b248, rfl⟩ := hp246
        change pm_J X 208 [(0, (3, 90)), (1, (0, a1)), (2, (0, a2)), (3, (0, a3)), (4, (0, (4 * (a1 / 100)))), (5, (0, y32)), (6, (0, x204))] [(0, y247), (0, y242), (0, y14), (0, y236), (0, 0), (0, x204), (3, 110)] 118 V206
        refine pm_isub hC dX12_works_208 ?_
        refine pm_callS (as := [(0, (y242 - y247))]) (st := [(0, y14), (0, y236), (0, 0), (0, x204), (3, 110)]) hC (B_X12_far (y242 - y247) ⟨by omega, by omega⟩) lm_X12_338 ls_X12_far (by decide) (by decide) rfl rfl (Nat.le_of_ble_eq_true rfl) ⟨Nat.le_refl _, Or.inl rfl⟩ dX12_works_209 ⟨rfl, hV207⟩ (fun r249 V250 hp251 => ?_)
        obtain ⟨y252, rfl, b253, rfl⟩ := hp251
        change pm_J X 212 [(0, (3, 90)), (1, (0, a1)), (2, (0, a2)), (3, (0, a3)), (4, (0, (4 * (a1 / 100)))), (5, (0, y32)), (6, (0, x204))] [(0, y252), (0, y14), (0, y236), (0, 0), (0, x204), (3, 110)] 118 V206
        refine pm_isub hC dX12_works_212 ?_
        refine pm_aload_n hC 0 (by decide) dX12_works_213 rfl ?_
        refine pm_iload hC 6 dX12_works_214 rfl ?_
        refine pm_callV (ci := 12) (as := [(0, x204)]) (st := [(0, (y14 - y252)), (0, y236), (0, 0), (0, x204), (3, 110)]) hC 90 (B_X12_y x204 ⟨by omega, by omega⟩) lm_X12_341 li_X12_y (by decide) (by decide) rfl rfl rfl (by decide) rfl rfl (Nat.le_of_ble_eq_true rfl) ⟨Nat.le_refl _, Or.inl rfl⟩ dX12_works_216 ⟨rfl, hV207⟩ (fun r254 V255 hp256 => ?_)
        obtain ⟨y257, rfl, b258, rfl⟩ := hp256
        change pm_J X 219 [(0, (3, 90)), (1, (0, a1)), (2, (0, a2)), (3, (0, a3)), (4, (0, (4 * (a1 / 100)))), (5, (0, y32)), (6, (0, x204))] [(0, y257), (0, (y14 - y252)), (0, y236), (0, 0), (0, x204), (3, 110)] 118 V206
        refine pm_aload_n hC 0 (by decide) dX12_works_219 rfl ?_
        refine pm_aload_n hC 0 (by decide) dX12_works_220 rfl ?_
        refine pm_getf (v := ((a1 / 10) % 10)) hC 90 fl_X12_305 rfl rfl (by decide) rfl e212 dX12_works_221 ?_
        refine pm_callV (ci := 12) (as := [(0, ((a1 / 10) % 10))]) (st := [(0, y257), (0, (y14 - y252)), (0, y236), (0, 0), (0, x204), (3, 110)]) hC 90 (B_X12_y ((a1 / 10) % 10) ⟨by omega, by omega⟩) lm_X12_341 li_X12_y (by decide) (by decide) rfl rfl rfl (by decide) rfl rfl (Nat.le_of_ble_eq_true rfl) ⟨Nat.le_refl _, Or.inl rfl⟩ dX12_works_224 ⟨rfl, hV207⟩ (fun r259 V260 hp261 => ?_)
        obtain ⟨y262, rfl, b263, rfl⟩ := hp261
        change pm_J X 227 [(0, (3, 90)), (1, (0, a1)), (2, (0, a2)), (3, (0, a3)), (4, (0, (4 * (a1 / 100)))), (5, (0, y32)), (6, (0, x204))] [(0, y262), (0, y257), (0, (y14 - y252)), (0, y236), (0, 0), (0, x204), (3, 110)] 118 V206
        refine pm_isub hC dX12_works_227 ?_
        refine pm_callS (as := [(0, (y257 - y262))]) (st := [(0, (y14 - y252)), (0, y236), (0, 0), (0, x204), (3, 110)]) hC (B_X12_far (y257 - y262) ⟨by omega, by omega⟩) lm_X12_338 ls_X12_far (by decide) (by decide) rfl rfl (Nat.le_of_ble_eq_true rfl) ⟨Nat.le_refl _, Or.inl rfl⟩ dX12_works_228 ⟨rfl, hV207⟩ (fun r264 V265 hp266 => ?_)
        obtain ⟨y267, rfl, b268, rfl⟩ := hp266
        change pm_J X 231 [(0, (3, 90)), (1, (0, a1)), (2, (0, a2)), (3, (0, a3)), (4, (0, (4 * (a1 / 100)))), (5, (0, y32)), (6, (0, x204))] [(0, y267), (0, (y14 - y252)), (0, y236), (0, 0), (0, x204), (3, 110)] 118 V206
        refine pm_isub hC dX12_works_231 ?_
        refine pm_imul hC dX12_works_232 ?_
        have b270 : (-1773) ≤ (y236 * ((y14 - y252) - y267)) ∧ (y236 * ((y14 - y252) - y267)) ≤ 1539 := pm_mulg (a := 0) (b := 9) (c := (-197)) (d := 171) ⟨by omega, by omega⟩ ⟨by omega, by omega⟩ (by decide) (by decide)
        generalize hey269 : (y236 * ((y14 - y252) - y267)) = y269 at b270 ⊢
        refine pm_mmax hC 7047 4012 1018 4013 ⟨by decide, by decide⟩ ⟨by omega, by omega⟩ (by decide) wL_X12_311 wS_mmax wI_math wC_mmax (Nat.le_of_ble_eq_true rfl) dX12_works_233 (fun y271 b272 => ?_)
        replace b272 : 0 ≤ y271 ∧ y271 ≤ 1539 ∧ 0 ≤ y271 ∧ y269 ≤ y271 := ⟨by omega, by omega, b272.1, b272.2.1⟩
        have hv273 : ((a1 / 10) % 10) = x204 → 1 ≤ y271 := by
          intro hq
          have q1 : V206 97 (3 * x204).toNat = V206 97 (3 * ((a1 / 10) % 10)).toNat := by rw [hq]
          have q2 : V206 97 (3 * x204 + 1).toNat = V206 97 (3 * ((a1 / 10) % 10) + 1).toNat := by rw [hq]
          have hh := hp217 x204 (by omega) (by omega)
          have hfz0 : y252 = 0 := pm_far0 b253 (by omega)
          have hfz1 : y267 = 0 := pm_far0 b268 (by omega)
          have hp : 1 ≤ y236 * ((y14 - y252) - y267) := pm_mul1 (by omega) (by omega)
          omega
        refine pm_iastore (len := 9) hC 110 rfl rfl (by decide) ⟨by omega, by omega⟩ (by decide) dX12_works_236 ?_
        refine pm_aload_n hC 0 (by decide) dX12_works_237 rfl ?_
        have e274 : V206 90 41 = 111 := hV207.one 90 41 (by decide) (by decide) rfl
        refine pm_getf (v := 111) hC 90 fl_X12_73 rfl rfl (by decide) rfl e274 dX12_works_238 ?_
        refine pm_iload hC 6 dX12_works_241 rfl ?_
        refine pm_iconst (v := 0) hC dX12_works_243 ?_
        refine pm_aload_n hC 0 (by decide) dX12_works_244 rfl ?_
        refine pm_getf (v := y27) hC 90 fl_X12_320 rfl rfl (by decide) rfl e215 dX12_works_245 ?_
        refine pm_aload_n hC 0 (by decide) dX12_works_248 rfl ?_
        refine pm_iload hC 6 dX12_works_249 rfl ?_
        refine pm_callV (ci := 12) (as := [(0, x204)]) (st := [(0, y27), (0, 0), (0, x204), (3, 111)]) hC 90 (B_X12_x x204 ⟨by omega, by omega⟩) lm_X12_335 li_X12_x (by decide) (by decide) rfl rfl rfl (by decide) rfl rfl (Nat.le_of_ble_eq_true rfl) ⟨Nat.le_refl _, Or.inl rfl⟩ dX12_works_251 ⟨rfl, (hV207.put 110 (x204 : Int).toNat (x := y271) (lo := 0) (hi := 1539) rfl ⟨by omega, by omega⟩)⟩ (fun r275 V276 hp277 => ?_)
        obtain ⟨y278, rfl, b279, rfl⟩ := hp277
        change pm_J X 254 [(0, (3, 90)), (1, (0, a1)), (2, (0, a2)), (3, (0, a3)), (4, (0, (4 * (a1 / 100)))), (5, (0, y32)), (6, (0, x204))] [(0, y278), (0, y27), (0, 0), (0, x204), (3, 111)] 118 (pm_up V206 110 (x204 : Int).toNat y271)
        refine pm_aload_n hC 0 (by decide) dX12_works_254 rfl ?_
        refine pm_aload_n hC 0 (by decide) dX12_works_255 rfl ?_
        refine pm_getf (v := (a1 % 10)) hC 90 fl_X12_308 rfl rfl (by decide) rfl e213 dX12_works_256 ?_
        refine pm_callV (ci := 12) (as := [(0, (a1 % 10))]) (st := [(0, y278), (0, y27), (0, 0), (0, x204), (3, 111)]) hC 90 (B_X12_x (a1 % 10) ⟨by omega, by omega⟩) lm_X12_335 li_X12_x (by decide) (by decide) rfl rfl rfl (by decide) rfl rfl (Nat.le_of_ble_eq_true rfl) ⟨Nat.le_refl _, Or.inl rfl⟩ dX12_works_259 ⟨rfl, (hV207.put 110 (x204 : Int).toNat (x := y271) (lo := 0) (hi := 1539) rfl ⟨by omega, by omega⟩)⟩ (fun r280 V281 hp282 => ?_)
        obtain ⟨y283, rfl, b284, rfl⟩ := hp282
        change pm_J X 262 [(0, (3, 90)), (1, (0, a1)), (2, (0, a2)), (3, (0, a3)), (4, (0, (4 * (a1 / 100)))), (5, (0, y32)), (6, (0, x204))] [(0, y283), (0, y278), (0, y27), (0, 0), (0, x204), (3, 111)] 118 (pm_up V206 110 (x204 : Int).toNat y271)
        refine pm_isub hC dX12_works_262 ?_
        refine pm_callS (as := [(0, (y278 - y283))]) (st := [(0, y27), (0, 0), (0, x204), (3, 111)]) hC (B_X12_far (y278 - y283) ⟨by omega, by omega⟩) lm_X12_338 ls_X12_far (by decide) (by decide) rfl rfl (Nat.le_of_ble_eq_true rfl) ⟨Nat.le_refl _, Or.inl rfl⟩ dX12_works_263 ⟨rfl, (hV207.put 110 (x204 : Int).toNat (x := y271) (lo := 0) (hi := 1539) rfl ⟨by omega, by omega⟩)⟩ (fun r285 V286 hp287 => ?_)
        obtain ⟨y288, rfl, b289, rfl⟩ := hp287
        change pm_J X 266 [(0, (3, 90)), (1, (0, a1)), (2, (0, a2)), (3, (0, a3)), (4, (0, (4 * (a1 / 100)))), (5, (0, y32)), (6, (0, x204))] [(0, y288), (0, y27), (0, 0), (0, x204), (3, 111)] 118 (pm_up V206 110 (x204 : Int).toNat y271)
        refine pm_isub hC dX12_works_266 ?_
        refine pm_mmax hC 7047 4012 1018 4013 ⟨by decide, by decide⟩ ⟨by omega, by omega⟩ (by decide) wL_X12_311 wS_mmax wI_math wC_mmax (Nat.le_of_ble_eq_true rfl) dX12_works_267 (fun y290 b291 => ?_)
        replace b291 : 0 ≤ y290 ∧ y290 ≤ 171 ∧ 0 ≤ y290 ∧ (y27 - y288) ≤ y290 := ⟨by omega, by omega, b291.1, b291.2.1⟩
        have hv292 : (a1 % 10) = x204 → 1 ≤ y290 := by
          intro hq
          have q1 : V206 97 (3 * x204).toNat = V206 97 (3 * (a1 % 10)).toNat := by rw [hq]
          have hfz0 : y288 = 0 := pm_far0 b289 (by omega)
          omega
        refine pm_iastore (len := 9) hC 111 rfl rfl (by decide) ⟨by omega, by omega⟩ (by decide) dX12_works_270 ?_
        refine pm_aload_n hC 0 (by decide) dX12_works_271 rfl ?_
        refine pm_dup hC rfl dX12_works_272 ?_
        obtain ⟨y293, e294⟩ : ∃ y, V206 90 44 = y := ⟨_, rfl⟩
        have b295 := hV207.get 90 44 (lo := 0) (hi := 13851) (by decide) (by decide) rfl
        rw [e294] at b295
        refine pm_getf (v := y293) hC 90 fl_X12_326 rfl rfl (by decide) rfl e294 dX12_works_273 ?_
        refine pm_aload_n hC 0 (by decide) dX12_works_276 rfl ?_
        refine pm_getf (v := 110) hC 90 fl_X12_70 rfl rfl (by decide) rfl e234 dX12_works_277 ?_
        refine pm_iload hC 6 dX12_works_280 rfl ?_
        have hV298 := ((hV207.put 110 (x204 : Int).toNat (x := y271) (lo := 0) (hi := 1539) rfl ⟨by omega, by omega⟩).put 111 (x204 : Int).toNat (x := y290) (lo := 0) (hi := 171) rfl ⟨by omega, by omega⟩)
        have hF299 := ((hF208.up 110 (x204 : Int).toNat y271 (by decide) rfl).up 111 (x204 : Int).toNat y290 (by decide) rfl)
        obtain ⟨V296, hv297⟩ : ∃ V, V = (pm_up (pm_up V206 110 (x204 : Int).toNat y271) 111 (x204 : Int).toNat y290) := ⟨_, rfl⟩
        rw [← hv297] at hV298 hF299
        rw [← hv297]
        have e300 : V296 90 18 = 98 := by rw [hv297]; exact e209
        have e301 : V296 90 24 = 100 := by rw [hv297]; exact e210
        have e302 : V296 90 20 = y29 := by rw [hv297]; exact e211
        have e303 : V296 90 48 = ((a1 / 10) % 10) := by rw [hv297]; exact e212
        have e304 : V296 90 49 = (a1 % 10) := by rw [hv297]; exact e213
        have e305 : V296 90 42 = y14 := by rw [hv297]; exact e214
        have e306 : V296 90 43 = y27 := by rw [hv297]; exact e215
        have e307 : V296 90 47 = y186 := by rw [hv297]; exact e216
        have e308 : V296 90 16 = y228 := by rw [hv297]; exact e229
        have e309 : V296 90 40 = 110 := by rw [hv297]; exact e234
        have e310 : V296 90 17 = 97 := by rw [hv297]; exact e235
        have e311 : V296 90 41 = 111 := by rw [hv297]; exact e274
        have e312 : V296 90 44 = y293 := by rw [hv297]; exact e294
        have hp313 : pm_h1 V296 := by rw [hv297]; exact (pm_h1.fr hp217 rfl rfl)
        obtain ⟨y314, e315⟩ : ∃ y, V296 110 (x204 : Int).toNat = y := ⟨_, rfl⟩
        have b316 := hV298.get 110 (x204 : Int).toNat (lo := 0) (hi := 1539) (t := 0) (by decide) (show _ < 9 by omega) rfl
        rw [e315] at b316
        refine pm_iaload (len := 9) (v := y314) hC 110 rfl rfl (by decide) ⟨by omega, by omega⟩ (by decide) e315 dX12_works_282 ?_
        refine pm_i2l hC ⟨by omega, by omega⟩ dX12_works_283 ?_
        refine pm_ladd hC dX12_works_284 ?_
        refine pm_putf hC 90 fl_X12_326 rfl rfl rfl (by decide) rfl trivial dX12_works_285 ?_
        refine pm_aload_n hC 0 (by decide) dX12_works_288 rfl ?_
        refine pm_dup hC rfl dX12_works_289 ?_
        obtain ⟨y317, e318⟩ : ∃ y, V296 90 45 = y := ⟨_, rfl⟩
        have b319 := hV298.get 90 45 (lo := 0) (hi := 1539) (by decide) (by decide) rfl
        rw [e318] at b319
        refine pm_getf (v := y317) hC 90 fl_X12_329 rfl rfl (by decide) rfl e318 dX12_works_290 ?_
        refine pm_aload_n hC 0 (by decide) dX12_works_293 rfl ?_
        refine pm_getf (v := 111) hC 90 fl_X12_73 rfl rfl (by decide) rfl e311 dX12_works_294 ?_
        refine pm_iload hC 6 dX12_works_297 rfl ?_
        obtain ⟨y320, e321⟩ : ∃ y, V296 111 (x204 : Int).toNat = y := ⟨_, rfl⟩
        have b322 := hV298.get 111 (x204 : Int).toNat (lo := 0) (hi := 171) (t := 0) (by decide) (show _ < 9 by omega) rfl
        rw [e321] at b322
        refine pm_iaload (len := 9) (v := y320) hC 111 rfl rfl (by decide) ⟨by omega, by omega⟩ (by decide) e321 dX12_works_299 ?_
        refine pm_i2l hC ⟨by omega, by omega⟩ dX12_works_300 ?_
        refine pm_ladd hC dX12_works_301 ?_
        refine pm_putf hC 90 fl_X12_329 rfl rfl rfl (by decide) rfl trivial dX12_works_302 ?_
        refine pm_aload_n hC 0 (by decide) dX12_works_305 rfl ?_
        refine pm_dup hC rfl dX12_works_306 ?_
        obtain ⟨y323, e324⟩ : ∃ y, V296 90 46 = y := ⟨_, rfl⟩
        have b325 := hV298.get 90 46 (lo := 0) (hi := 2368521) (by decide) (by decide) rfl
        rw [e324] at b325
        refine pm_getf (v := y323) hC 90 fl_X12_332 rfl rfl (by decide) rfl e324 dX12_works_307 ?_
        refine pm_aload_n hC 0 (by decide) dX12_works_310 rfl ?_
        refine pm_getf (v := 110) hC 90 fl_X12_70 rfl rfl (by decide) rfl e309 dX12_works_311 ?_
        refine pm_iload hC 6 dX12_works_314 rfl ?_
        refine pm_iaload (len := 9) (v := y314) hC 110 rfl rfl (by decide) ⟨by omega, by omega⟩ (by decide) e315 dX12_works_316 ?_
        refine pm_i2l hC ⟨by omega, by omega⟩ dX12_works_317 ?_
        refine pm_aload_n hC 0 (by decide) dX12_works_318 rfl ?_
        refine pm_getf (v := 111) hC 90 fl_X12_73 rfl rfl (by decide) rfl e311 dX12_works_319 ?_
        refine pm_iload hC 6 dX12_works_322 rfl ?_
        refine pm_iaload (len := 9) (v := y320) hC 111 rfl rfl (by decide) ⟨by omega, by omega⟩ (by decide) e321 dX12_works_324 ?_
        refine pm_i2l hC ⟨by omega, by omega⟩ dX12_works_325 ?_
        refine pm_lmul hC dX12_works_326 ?_
        have b327 : 0 ≤ (y314 * y320) ∧ (y314 * y320) ≤ 263169 := pm_mulb (by omega) (by omega) (show y314 ≤ 1539 by omega) (show y320 ≤ 171 by omega) (by decide)
        generalize hey326 : (y314 * y320) = y326 at b327 ⊢
        refine pm_ladd hC dX12_works_327 ?_
        refine pm_putf hC 90 fl_X12_332 rfl rfl rfl (by decide) rfl trivial dX12_works_328 ?_
        obtain ⟨x328, ei329⟩ : ∃ y : Int, x204 + 1 = y := ⟨_, rfl⟩
        refine pm_iinc (y := x328) (lv' := [(6, (0, x328)), (0, (3, 90)), (1, (0, a1)), (2, (0, a2)), (3, (0, a3)), (4, (0, (4 * (a1 / 100)))), (5, (0, y32))]) hC 6 dX12_works_331 (by decide) rfl ei329 rfl ?_
        refine pm_goto (tgt := 163) hC dX12_works_334 (by decide) ?_
        refine pm_lvsub [1, 2, 3, 4, 5, 6, 0] (lv' := [(0, (3, 90)), (1, (0, a1)), (2, (0, a2)), (3, (0, a3)), (4, (0, (4 * (a1 / 100)))), (5, (0, y32)), (6, (0, x328))]) rfl ?_
        exact <function pw3 at 0x7f8ea6b85c60> _ (by omega) x328 (pm_up (pm_up (pm_up V296 90 44 (y293 + y314)) 90 45 (y317 + y320)) 90 46 (y323 + y326)) ⟨by omega, by omega⟩ (((hV298.put 90 44 (x := (y293 + y314)) (lo := 0) (hi := 13851) rfl ⟨by omega, by omega⟩).put 90 45 (x := (y317 + y320)) (lo := 0) (hi := 1539) rfl ⟨by omega, by omega⟩).put 90 46 (x := (y323 + y326)) (lo := 0) (hi := 2368521) rfl ⟨by omega, by omega⟩) (((hF299.upf 44 (y293 + y314) rfl).upf 45 (y317 + y320) rfl).upf 46 (y323 + y326) rfl) e300 e301 e302 e303 e304 e305 e306 e307 (pm_h1.fr hp313 rfl rfl) (show (y293 + y314) ≤ 1539 * x328 by omega) (show (y317 + y320) ≤ 171 * x328 by omega) (show (y323 + y326) ≤ 263169 * x328 by omega) (fun h => by show 1 ≤ V296 110 (((a1 / 10) % 10)).toNat; rw [hv297]; exact pm_up_get (V := V206) (k := 110) (i := x204) (a := ((a1 / 10) % 10)) (x := y271) (p := fun z => 1 ≤ z) (by omega) (by omega) hv273 (fun hne => hx221 (by omega))) (fun h => by show 1 ≤ V296 111 ((a1 % 10)).toNat; rw [hv297]; exact pm_up_get (V := V206) (k := 111) (i := x204) (a := (a1 % 10)) (x := y290) (p := fun z => 1 ≤ z) (by omega) (by omega) hv292 (fun hne => hx222 (by omega))) (fun h => by have h9 : 1 ≤ (y323 + y326) := h; (by_cases hy : 1 ≤ y326); (have hm : y314 * y320 = y326 := hey326; obtain ⟨m1, m2⟩ := pm_mulpos (x := y314) (y := y320) (by omega) (by omega) (by rw [hm]; exact hy); exact ⟨((x204) : Int).toNat, by omega, by (show 1 ≤ V296 110 ((x204) : Int).toNat; rw [e315]; exact m1), by (show 1 ≤ V296 111 ((x204) : Int).toNat; rw [e321]; exact m2)⟩); (obtain ⟨q, q1, q2, q3⟩ := hx223 (by (have h46 : V206 90 46 = V296 90 46 := by rw [hv297]; rfl); rw [h46, e324]; omega); exact ⟨q, by omega, by (show 1 ≤ V296 110 q; rw [hv297, pm_up_c (by decide), pm_up_i (by omega)]; exact q2), by (show 1 ≤ V296 111 q; rw [hv297, pm_up_i (by omega), pm_up_c (by decide)]; exact q3)⟩)) rfl
    refine pm_lvsub [3, 4, 5, 6, 2, 1, 0] (lv' := [(0, (3, 90)), (1, (0, a1)), (2, (0, a2)), (3, (0, a3)), (4, (0, (4 * (a1 / 100)))), (5, (0, y32)), (6, (0, 0))]) rfl ?_
    exact <function pw3 at 0x7f8ea6b85c60> _ 0 V188 ⟨by decide, by decide⟩ hV190 hF191 e192 e193 e194 e195 e196 e197 e198 e199 hp203 (by (have e : V188 90 44 = 0 := e200); rw [e]; omega) (by (have e : V188 90 45 = 0 := e201); rw [e]; omega) (by (have e : V188 90 46 = 0 := e202); rw [e]; omega) (fun h => absurd h (by omega)) (fun h => absurd h (by omega)) (fun h => absurd h (by rw [e202]; decide)) rfl
set_option maxHeartbeats 4000000 in
set_option maxRecDepth 100000 in
theorem B_X12_worksAnswer (a1 : Int) (h0 : 0 ≤ a1 ∧ a1 ≤ 59) : pm_K 3 yX12_worksAnswer cX12_worksAnswer 2 none (fun av V => av = [(3, 90), (0, a1)] ∧ pm_oq pm_qB V ∧ (a1 < V 90 25) ∧ pm_h1 V ∧ pm_h3 V) (fun _ V r V' => r = none ∧ pm_oq pm_qB V' ∧ pm_fs [110, 111] [42, 43, 44, 45, 46, 47, 48, 49] V V' ∧ (1 ≤ V' 90 42 ∧ V' 90 42 ≤ 171) ∧ (1 ≤ V' 90 43 ∧ V' 90 43 ≤ 171) ∧ pm_w1 V' ∧ pm_w3 V') := by
  refine pm_MT.of (by decide) ⟨Nat.le_refl _, by decide⟩ (fun av V h => by rw [h.1]; exact (by decide : pm_words [(3, 0), (0, 0)] ≤ 2)) ?_
  rintro X av V0 hC - hR ⟨rfl, hV0, hmp0, hn_pm_h1, hn_pm_h3⟩
  change pm_J X 0 [(0, (3, 90)), (1, (0, a1))] [] 118 V0
  have hh3 := hn_pm_h3 a1 (by omega) (by omega)
  refine pm_aload_n hC 0 (by decide) dX12_worksAnswer_0 rfl ?_
  refine pm_aload_n hC 0 (by decide) dX12_worksAnswer_1 rfl ?_
  have e1 : V0 90 26 = 101 := hV0.one 90 26 (by decide) (by decide) rfl
  refine pm_getf (v := 101) hC 90 fl_X12_43 rfl rfl (by decide) rfl e1 dX12_worksAnswer_2 ?_
  refine pm_iconst (v := 5) hC dX12_worksAnswer_5 ?_
  refine pm_iload_n hC 1 dX12_worksAnswer_6 rfl ?_
  refine pm_imul hC dX12_worksAnswer_7 ?_
  obtain ⟨y2, e3⟩ : ∃ y, V0 101 ((5 * a1) : Int).toNat = y := ⟨_, rfl⟩
  have b4 := hV0.get1 101 ((5 * a1) : Int).toNat (lo := 0) (hi := 999) (by decide) (show _ < 300 by omega) ((pm_qe_r (tb := pm_qB) (k := 101) (i := ((5 * a1) : Int).toNat) (m := 5) (r := 0) (l := [(0, 999, 1), (0, 99, 0), (-99, 99, 0), (0, 8, 0), (0, 1, 0)]) rfl rfl (by omega)).trans rfl)
  rw [e3] at b4
  refine pm_iaload (len := 300) (v := y2) hC 101 rfl rfl (by decide) ⟨by omega, by omega⟩ (by decide) e3 dX12_worksAnswer_8 ?_
  refine pm_aload_n hC 0 (by decide) dX12_worksAnswer_9 rfl ?_
  refine pm_getf (v := 101) hC 90 fl_X12_43 rfl rfl (by decide) rfl e1 dX12_worksAnswer_10 ?_
  refine pm_iconst (v := 5) hC dX12_worksAnswer_13 ?_
  refine pm_iload_n hC 1 dX12_worksAnswer_14 rfl ?_
  refine pm_imul hC dX12_worksAnswer_15 ?_
  refine pm_iconst (v := 1) hC dX12_worksAnswer_16 ?_
  refine pm_iadd hC dX12_worksAnswer_17 ?_
  obtain ⟨y5, e6⟩ : ∃ y, V0 101 (((5 * a1) + 1) : Int).toNat = y := ⟨_, rfl⟩
  have b7 := hV0.get 101 (((5 * a1) + 1) : Int).toNat (lo := 0) (hi := 99) (t := 0) (by decide) (show _ < 300 by omega) ((pm_qe_r (tb := pm_qB) (k := 101) (i := (((5 * a1) + 1) : Int).toNat) (m := 5) (r := 1) (l := [(0, 999, 1), (0, 99, 0), (-99, 99, 0), (0, 8, 0), (0, 1, 0)]) rfl rfl (by omega)).trans rfl)
  rw [e6] at b7
  refine pm_iaload (len := 300) (v := y5) hC 101 rfl rfl (by decide) ⟨by omega, by omega⟩ (by decide) e6 dX12_worksAnswer_18 ?_
  refine pm_aload_n hC 0 (by decide) dX12_worksAnswer_19 rfl ?_
  refine pm_getf (v := 101) hC 90 fl_X12_43 rfl rfl (by decide) rfl e1 dX12_worksAnswer_20 ?_
  refine pm_iconst (v := 5) hC dX12_worksAnswer_23 ?_
  refine pm_iload_n hC 1 dX12_worksAnswer_24 rfl ?_
  refine pm_imul hC dX12_worksAnswer_25 ?_
  refine pm_iconst (v := 2) hC dX12_worksAnswer_26 ?_
  refine pm_iadd hC dX12_worksAnswer_27 ?_
  obtain ⟨y8, e9⟩ : ∃ y, V0 101 (((5 * a1) + 2) : Int).toNat = y := ⟨_, rfl⟩
  have b10 := hV0.get 101 (((5 * a1) + 2) : Int).toNat (lo := (-99)) (hi := 99) (t := 0) (by decide) (show _ < 300 by omega) ((pm_qe_r (tb := pm_qB) (k := 101) (i := (((5 * a1) + 2) : Int).toNat) (m := 5) (r := 2) (l := [(0, 999, 1), (0, 99, 0), (-99, 99, 0), (0, 8, 0), (0, 1, 0)]) rfl rfl (by omega)).trans rfl)
  rw [e9] at b10
  refine pm_iaload (len := 300) (v := y8) hC 101 rfl rfl (by decide) ⟨by omega, by omega⟩ (by decide) e9 dX12_worksAnswer_28 ?_
  refine pm_callV (ci := 12) (as := [(0, y2), (0, y5), (0, y8)]) (st := []) hC 90 (B_X12_works y2 y5 y8 ⟨by omega, by omega⟩ ⟨by omega, by omega⟩ ⟨by omega, by omega⟩ (by omega)) lm_X12_376 li_X12_works (by decide) (by decide) rfl rfl rfl (by decide) rfl rfl (Nat.le_of_ble_eq_true rfl) ⟨Nat.le_refl _, Or.inl rfl⟩ dX12_worksAnswer_29 ⟨rfl, hV0, (show a1 % 10 < V0 90 16 by omega), (show a1 / 10 % 10 < V0 90 16 by omega), hn_pm_h1⟩ (fun r11 V12 hp13 => ?_)
  obtain ⟨rfl, hV14, hF15, hq16, hq17, hg18, hg19⟩ := hp13
  change pm_J X 32 [(0, (3, 90)), (1, (0, a1))] [] 118 V12
  have hF20 := pm_fs.tr (pm_fs.rf (cs := [110, 111]) (fs := [42, 43, 44, 45, 46, 47, 48, 49]) (V := V0)) hF15 (by decide) (by decide)
  have e21 : V12 90 26 = 101 := by rw [hF15.2 26 (by decide)]; exact e1
  have hp22 : pm_h1 V12 := (pm_h1.fr hn_pm_h1 (hF15.2 16 (by decide)) (hF15.1 97 (by decide) (by decide)))
  have hp23 : pm_h3 V12 := (pm_h3.fr hn_pm_h3 (hF15.2 16 (by decide)) (hF15.2 25 (by decide)) (hF15.1 101 (by decide) (by decide)))
  obtain ⟨z24, ez25⟩ : ∃ z, V12 90 42 = z := ⟨_, rfl⟩
  rw [ez25] at hq16
  obtain ⟨z26, ez27⟩ : ∃ z, V12 90 43 = z := ⟨_, rfl⟩
  rw [ez27] at hq17
  have q28 : 1 ≤ V12 90 42 ∧ V12 90 42 ≤ 171 := by (have e : V12 90 42 = z24 := ez25); rw [e]; exact ⟨by omega, by omega⟩
  have q29 : 1 ≤ V12 90 43 ∧ V12 90 43 ≤ 171 := by (have e : V12 90 43 = z26 := ez27); rw [e]; exact ⟨by omega, by omega⟩
  exact pm_vret hC hR ⟨rfl, hV14, hF20, q28, q29, hg18, hg19⟩ dX12_worksAnswer_32
