set_option maxHeartbeats 4000000 in
set_option maxRecDepth 100000 in
theorem B_X12_works (a1 a2 a3 : Int) (h0 : 0 ≤ a1 ∧ a1 ≤ 999) (h1 : 0 ≤ a2 ∧ a2 ≤ 99) (h2 : (-99) ≤ a3 ∧ a3 ≤ 99) (h3 : a1 % 10 ≤ 8 ∧ a1 / 10 % 10 ≤ 8) : pm_K 2 yX12_works cX12_works 7 none (fun av V => av = [(3, 90), (0, a1), (0, a2), (0, a3)] ∧ pm_oq pm_qB V ∧ (a1 % 10 < V 90 16) ∧ (a1 / 10 % 10 < V 90 16) ∧ pm_h1 V) (fun _ V r V' => r = none ∧ pm_oq pm_qB V' ∧ pm_fs [110, 111] [42, 43, 44, 45, 46, 47, 48, 49] V V' ∧ (1 ≤ V' 90 42 ∧ V' 90 42 ≤ 171) ∧ (1 ≤ V' 90 43 ∧ V' 90 43 ≤ 171) ∧ pm_w1 V') := by
  refine pm_MT.of (by decide) ⟨Nat.le_refl _, by decide⟩ (fun av V h => by rw [h.1]; exact (by decide : pm_words [(3, 0), (0, 0), (0, 0), (0, 0)] ≤ 7)) ?_
  rintro X av V0 hC - hR ⟨rfl, hV0, hmp0, hmp1, hn_pm_h1⟩
  change pm_J X 0 [(0, (3, 90)), (1, (0, a1)), (2, (0, a2)), (3, (0, a3))] [] 118 V0
  refine pm_iconst (v := 4) hC dX12_works_0 ?_
  refine pm_iload_n hC 1 dX12_works_1 rfl ?_
  refine pm_bipush (v := 100) hC dX12_works_2 (by decide) ?_
  refine pm_idiv hC ⟨by omega, by omega, by omega⟩ ⟨by decide, by decide, by decide⟩ dX12_works_4 ?_
  refine pm_imul hC dX12_works_5 ?_
  refine pm_istore (lv' := [(4, (0, (4 * (a1 / 100)))), (0, (3, 90)), (1, (0, a1)), (2, (0, a2)), (3, (0, a3))]) hC dX12_works_6 (by decide) rfl ?_
  refine pm_aload_n hC 1 (by decide) dX12_works_8 rfl ?_
  refine pm_iload_n hC 2 dX12_works_9 rfl ?_
  refine pm_bipush (v := 10) hC dX12_works_10 (by decide) ?_
  refine pm_idiv hC ⟨by omega, by omega, by omega⟩ ⟨by decide, by decide, by decide⟩ dX12_works_12 ?_
  refine pm_bipush (v := 10) hC dX12_works_13 (by decide) ?_
  refine pm_irem hC ⟨by omega, by omega, by omega⟩ ⟨by decide, by decide, by decide⟩ dX12_works_15 ?_
  refine pm_putf hC 90 fl_X12_305 rfl rfl rfl (by decide) rfl trivial dX12_works_16 ?_
  refine pm_aload_n hC 1 (by decide) dX12_works_19 rfl ?_
  refine pm_iload_n hC 2 dX12_works_20 rfl ?_
  refine pm_bipush (v := 10) hC dX12_works_21 (by decide) ?_
  refine pm_irem hC ⟨by omega, by omega, by omega⟩ ⟨by decide, by decide, by decide⟩ dX12_works_23 ?_
  refine pm_putf hC 90 fl_X12_308 rfl rfl rfl (by decide) rfl trivial dX12_works_24 ?_
  refine pm_aload_n hC 1 (by decide) dX12_works_27 rfl ?_
  refine pm_iconst (v := 1) hC dX12_works_28 ?_
  refine pm_aload_n hC 1 (by decide) dX12_works_29 rfl ?_
  have e1 : V0 90 18 = 98 := hV0.one 90 18 (by decide) (by decide) rfl
  refine pm_getf (v := 98) hC 90 fl_X12_34 rfl rfl (by decide) rfl e1 dX12_works_30 ?_
  refine pm_iconst (v := 0) hC dX12_works_33 ?_
  obtain ⟨y2, e3⟩ : ∃ y, V0 98 (0 : Int).toNat = y := ⟨_, rfl⟩
  have b4 := hV0.get 98 (0 : Int).toNat (lo := 1) (hi := 60) (t := 0) (by decide) (show _ < 4 by omega) rfl
  rw [e3] at b4
  refine pm_iaload (len := 4) (v := y2) hC 98 rfl rfl (by decide) ⟨by decide, by decide⟩ (by decide) e3 dX12_works_34 ?_
  refine pm_aload_n hC 1 (by decide) dX12_works_35 rfl ?_
  have e5 : V0 90 24 = 100 := hV0.one 90 24 (by decide) (by decide) rfl
  refine pm_getf (v := 100) hC 90 fl_X12_40 rfl rfl (by decide) rfl e5 dX12_works_36 ?_
  refine pm_iload hC 0 dX12_works_39 rfl ?_
  obtain ⟨y6, e7⟩ : ∃ y, V0 100 ((4 * (a1 / 100)) : Int).toNat = y := ⟨_, rfl⟩
  have b8 := hV0.get 100 ((4 * (a1 / 100)) : Int).toNat (lo := (-30)) (hi := 30) (t := 0) (by decide) (show _ < 40 by omega) ((pm_qe_r (tb := pm_qB) (k := 100) (i := ((4 * (a1 / 100)) : Int).toNat) (m := 4) (r := 0) (l := [(-30, 30, 0), (-30, 30, 0), (0, 16, 0), (0, 3, 0)]) rfl rfl (by omega)).trans rfl)
  rw [e7] at b8
  refine pm_iaload (len := 40) (v := y6) hC 100 rfl rfl (by decide) ⟨by omega, by omega⟩ (by decide) e7 dX12_works_41 ?_
  refine pm_iadd hC dX12_works_42 ?_
  refine pm_aload_n hC 1 (by decide) dX12_works_43 rfl ?_
  refine pm_getf (v := 98) hC 90 fl_X12_34 rfl rfl (by decide) rfl e1 dX12_works_44 ?_
  refine pm_iconst (v := 1) hC dX12_works_47 ?_
  obtain ⟨y9, e10⟩ : ∃ y, V0 98 (1 : Int).toNat = y := ⟨_, rfl⟩
  have b11 := hV0.get 98 (1 : Int).toNat (lo := 0) (hi := 9) (t := 0) (by decide) (show _ < 4 by omega) rfl
  rw [e10] at b11
  refine pm_iaload (len := 4) (v := y9) hC 98 rfl rfl (by decide) ⟨by decide, by decide⟩ (by decide) e10 dX12_works_48 ?_
  refine pm_iload_n hC 3 dX12_works_49 rfl ?_
  refine pm_bipush (v := 10) hC dX12_works_50 (by decide) ?_
  refine pm_idiv hC ⟨by omega, by omega, by omega⟩ ⟨by decide, by decide, by decide⟩ dX12_works_52 ?_
  refine pm_imul hC dX12_works_53 ?_
  have b13 : 0 ≤ (y9 * (a2 / 10)) ∧ (y9 * (a2 / 10)) ≤ 81 := pm_mulb (by omega) (by omega) (show y9 ≤ 9 by omega) (show (a2 / 10) ≤ 9 by omega) (by decide)
  generalize (y9 * (a2 / 10)) = y12 at b13 ⊢
  refine pm_iadd hC dX12_works_54 ?_
  refine pm_mmax hC 7047 4012 1018 4013 ⟨by decide, by decide⟩ ⟨by omega, by omega⟩ (by decide) wL_X12_311 wS_mmax wI_math wC_mmax (Nat.le_of_ble_eq_true rfl) dX12_works_55 (fun y14 b15 => ?_)
  refine pm_putf hC 90 fl_X12_317 rfl rfl rfl (by decide) rfl trivial dX12_works_58 ?_
  refine pm_aload_n hC 1 (by decide) dX12_works_61 rfl ?_
  refine pm_iconst (v := 1) hC dX12_works_62 ?_
  refine pm_aload_n hC 1 (by decide) dX12_works_63 rfl ?_
  refine pm_getf (v := 98) hC 90 fl_X12_34 rfl rfl (by decide) rfl e1 dX12_works_64 ?_
  refine pm_iconst (v := 2) hC dX12_works_67 ?_
  obtain ⟨y16, e17⟩ : ∃ y, V0 98 (2 : Int).toNat = y := ⟨_, rfl⟩
  have b18 := hV0.get 98 (2 : Int).toNat (lo := 1) (hi := 60) (t := 0) (by decide) (show _ < 4 by omega) rfl
  rw [e17] at b18
  refine pm_iaload (len := 4) (v := y16) hC 98 rfl rfl (by decide) ⟨by decide, by decide⟩ (by decide) e17 dX12_works_68 ?_
  refine pm_aload_n hC 1 (by decide) dX12_works_69 rfl ?_
  refine pm_getf (v := 100) hC 90 fl_X12_40 rfl rfl (by decide) rfl e5 dX12_works_70 ?_
  refine pm_iload hC 0 dX12_works_73 rfl ?_
  refine pm_iconst (v := 1) hC dX12_works_75 ?_
  refine pm_iadd hC dX12_works_76 ?_
  obtain ⟨y19, e20⟩ : ∃ y, V0 100 (((4 * (a1 / 100)) + 1) : Int).toNat = y := ⟨_, rfl⟩
  have b21 := hV0.get 100 (((4 * (a1 / 100)) + 1) : Int).toNat (lo := (-30)) (hi := 30) (t := 0) (by decide) (show _ < 40 by omega) ((pm_qe_r (tb := pm_qB) (k := 100) (i := (((4 * (a1 / 100)) + 1) : Int).toNat) (m := 4) (r := 1) (l := [(-30, 30, 0), (-30, 30, 0), (0, 16, 0), (0, 3, 0)]) rfl rfl (by omega)).trans rfl)
  rw [e20] at b21
  refine pm_iaload (len := 40) (v := y19) hC 100 rfl rfl (by decide) ⟨by omega, by omega⟩ (by decide) e20 dX12_works_77 ?_
  refine pm_iadd hC dX12_works_78 ?_
  refine pm_aload_n hC 1 (by decide) dX12_works_79 rfl ?_
  refine pm_getf (v := 98) hC 90 fl_X12_34 rfl rfl (by decide) rfl e1 dX12_works_80 ?_
  refine pm_iconst (v := 3) hC dX12_works_83 ?_
  obtain ⟨y22, e23⟩ : ∃ y, V0 98 (3 : Int).toNat = y := ⟨_, rfl⟩
  have b24 := hV0.get 98 (3 : Int).toNat (lo := 0) (hi := 9) (t := 0) (by decide) (show _ < 4 by omega) rfl
  rw [e23] at b24
  refine pm_iaload (len := 4) (v := y22) hC 98 rfl rfl (by decide) ⟨by decide, by decide⟩ (by decide) e23 dX12_works_84 ?_
  refine pm_iload_n hC 3 dX12_works_85 rfl ?_
  refine pm_bipush (v := 10) hC dX12_works_86 (by decide) ?_
  refine pm_irem hC ⟨by omega, by omega, by omega⟩ ⟨by decide, by decide, by decide⟩ dX12_works_88 ?_
  refine pm_imul hC dX12_works_89 ?_
  have b26 : 0 ≤ (y22 * (a2 % 10)) ∧ (y22 * (a2 % 10)) ≤ 81 := pm_mulb (by omega) (by omega) (show y22 ≤ 9 by omega) (show (a2 % 10) ≤ 9 by omega) (by decide)
  generalize (y22 * (a2 % 10)) = y25 at b26 ⊢
  refine pm_iadd hC dX12_works_90 ?_
  refine pm_mmax hC 7047 4012 1018 4013 ⟨by decide, by decide⟩ ⟨by omega, by omega⟩ (by decide) wL_X12_311 wS_mmax wI_math wC_mmax (Nat.le_of_ble_eq_true rfl) dX12_works_91 (fun y27 b28 => ?_)
  refine pm_putf hC 90 fl_X12_320 rfl rfl rfl (by decide) rfl trivial dX12_works_94 ?_
  refine pm_iconst (v := 1) hC dX12_works_97 ?_
  refine pm_aload_n hC 1 (by decide) dX12_works_98 rfl ?_
  obtain ⟨y29, e30⟩ : ∃ y, V0 90 20 = y := ⟨_, rfl⟩
  have b31 := hV0.get 90 20 (lo := 1) (hi := 99) (by decide) (by decide) rfl
  rw [e30] at b31
  refine pm_getf (v := y29) hC 90 fl_X12_229 rfl rfl (by decide) rfl e30 dX12_works_99 ?_
  refine pm_iconst (v := 2) hC dX12_works_102 ?_
  refine pm_idiv hC ⟨by omega, by omega, by omega⟩ ⟨by decide, by decide, by decide⟩ dX12_works_103 ?_
  refine pm_mmax hC 7047 4012 1018 4013 ⟨by decide, by decide⟩ ⟨by omega, by omega⟩ (by decide) wL_X12_311 wS_mmax wI_math wC_mmax (Nat.le_of_ble_eq_true rfl) dX12_works_104 (fun y32 b33 => ?_)
  refine pm_istore (lv' := [(5, (0, y32)), (4, (0, (4 * (a1 / 100)))), (0, (3, 90)), (1, (0, a1)), (2, (0, a2)), (3, (0, a3))]) hC dX12_works_107 (by decide) rfl ?_
  refine pm_aload_n hC 2 (by decide) dX12_works_109 rfl ?_
  refine pm_iconst (v := 0) hC dX12_works_110 ?_
  refine pm_aload_n hC 2 (by decide) dX12_works_111 rfl ?_
  refine pm_getf (v := 100) hC 90 fl_X12_40 rfl rfl (by decide) rfl e5 dX12_works_112 ?_
  refine pm_iload hC 1 dX12_works_115 rfl ?_
  refine pm_iconst (v := 2) hC dX12_works_117 ?_
  refine pm_iadd hC dX12_works_118 ?_
  obtain ⟨y34, e35⟩ : ∃ y, V0 100 (((4 * (a1 / 100)) + 2) : Int).toNat = y := ⟨_, rfl⟩
  have b36 := hV0.get 100 (((4 * (a1 / 100)) + 2) : Int).toNat (lo := 0) (hi := 16) (t := 0) (by decide) (show _ < 40 by omega) ((pm_qe_r (tb := pm_qB) (k := 100) (i := (((4 * (a1 / 100)) + 2) : Int).toNat) (m := 4) (r := 2) (l := [(-30, 30, 0), (-30, 30, 0), (0, 16, 0), (0, 3, 0)]) rfl rfl (by omega)).trans rfl)
  rw [e35] at b36
  refine pm_iaload (len := 40) (v := y34) hC 100 rfl rfl (by decide) ⟨by omega, by omega⟩ (by decide) e35 dX12_works_119 ?_
  refine pm_iload_n hC 5 dX12_works_120 rfl ?_
  refine pm_if_lt (tgt := 133) hC ⟨by omega, by omega⟩ dX12_works_121 (by decide) (fun c37 => ?_) (fun c37 => ?_)
  · skip
    refine pm_iload_n hC 5 dX12_works_133 rfl ?_
    refine pm_ineg hC dX12_works_134 ?_
    refine pm_iload hC 0 dX12_works_135 rfl ?_
    refine pm_idiv hC ⟨by omega, by omega, by omega⟩ ⟨by omega, by omega, by omega⟩ dX12_works_137 ?_
    have b39 := pm_divb (x := (-a3)) (y := y32) (by omega) (by omega)
    generalize ((-a3) / y32) = y38 at b39 ⊢
    refine pm_isub hC dX12_works_138 ?_
    refine pm_mmax hC 7047 4012 1018 4013 ⟨by decide, by decide⟩ ⟨by omega, by omega⟩ (by decide) wL_X12_311 wS_mmax wI_math wC_mmax (Nat.le_of_ble_eq_true rfl) dX12_works_139 (fun y40 b41 => ?_)
    refine pm_putf hC 90 fl_X12_323 rfl rfl rfl (by decide) rfl trivial dX12_works_142 ?_
    refine pm_aload_n hC 2 (by decide) dX12_works_145 rfl ?_
    refine pm_lconst (x := 0) hC dX12_works_146 rfl ?_
    refine pm_putf hC 90 fl_X12_326 rfl rfl rfl (by decide) rfl trivial dX12_works_147 ?_
    refine pm_aload_n hC 2 (by decide) dX12_works_150 rfl ?_
    refine pm_lconst (x := 0) hC dX12_works_151 rfl ?_
    refine pm_putf hC 90 fl_X12_329 rfl rfl rfl (by decide) rfl trivial dX12_works_152 ?_
    refine pm_aload_n hC 2 (by decide) dX12_works_155 rfl ?_
    refine pm_lconst (x := 0) hC dX12_works_156 rfl ?_
    refine pm_putf hC 90 fl_X12_332 rfl rfl rfl (by decide) rfl trivial dX12_works_157 ?_
    refine pm_iconst (v := 0) hC dX12_works_160 ?_
    refine pm_istore (lv' := [(6, (0, 0)), (5, (0, y32)), (4, (0, (4 * (a1 / 100)))), (0, (3, 90)), (1, (0, a1)), (2, (0, a2)), (3, (0, a3))]) hC dX12_works_161 (by decide) rfl ?_
    have hV44 := ((((((((hV0.put 90 48 (x := ((a1 / 10) % 10)) (lo := 0) (hi := 8) rfl ⟨by omega, by omega⟩).put 90 49 (x := (a1 % 10)) (lo := 0) (hi := 8) rfl ⟨by omega, by omega⟩).put 90 42 (x := y14) (lo := 0) (hi := 171) rfl ⟨by omega, by omega⟩).put 90 43 (x := y27) (lo := 0) (hi := 171) rfl ⟨by omega, by omega⟩).put 90 47 (x := y40) (lo := 0) (hi := 16) rfl ⟨by omega, by omega⟩).put 90 44 (x := 0) (lo := 0) (hi := 13851) rfl ⟨by decide, by decide⟩).put 90 45 (x := 0) (lo := 0) (hi := 1539) rfl ⟨by decide, by decide⟩).put 90 46 (x := 0) (lo := 0) (hi := 2368521) rfl ⟨by decide, by decide⟩)
    have hF45 := (((((((((pm_fs.rf (cs := [110, 111]) (fs := [42, 43, 44, 45, 46, 47, 48, 49]) (V := V0)).upf 48 ((a1 / 10) % 10) rfl).upf 49 (a1 % 10) rfl).upf 42 y14 rfl).upf 43 y27 rfl).upf 47 y40 rfl).upf 44 0 rfl).upf 45 0 rfl).upf 46 0 rfl)
    obtain ⟨V42, hv43⟩ : ∃ V, V = (pm_up (pm_up (pm_up (pm_up (pm_up (pm_up (pm_up (pm_up V0 90 48 ((a1 / 10) % 10)) 90 49 (a1 % 10)) 90 42 y14) 90 43 y27) 90 47 y40) 90 44 0) 90 45 0) 90 46 0) := ⟨_, rfl⟩
    rw [← hv43] at hV44 hF45
    rw [← hv43]
    have e46 : V42 90 18 = 98 := by rw [hv43]; exact e1
    have e47 : V42 90 24 = 100 := by rw [hv43]; exact e5
    have e48 : V42 90 20 = y29 := by rw [hv43]; exact e30
    have e49 : V42 90 48 = ((a1 / 10) % 10) := by rw [hv43]; rfl
    have e50 : V42 90 49 = (a1 % 10) := by rw [hv43]; rfl
    have e51 : V42 90 42 = y14 := by rw [hv43]; rfl
    have e52 : V42 90 43 = y27 := by rw [hv43]; rfl
    have e53 : V42 90 47 = y40 := by rw [hv43]; rfl
    have e54 : V42 90 44 = 0 := by rw [hv43]; rfl
    have e55 : V42 90 45 = 0 := by rw [hv43]; rfl
    have e56 : V42 90 46 = 0 := by rw [hv43]; rfl
    have hp57 : pm_h1 V42 := by rw [hv43]; exact (pm_h1.fr hn_pm_h1 rfl rfl)
    have L77 : ∀ (N79 : Nat) (x58 : Int) (V60 : pm_M), (0 ≤ x58 ∧ x58 ≤ 9) → pm_oq pm_qB V60 → pm_fs [110, 111] [42, 43, 44, 45, 46, 47, 48, 49] V0 V60 → V60 90 18 = 98 → V60 90 24 = 100 → V60 90 20 = y29 → V60 90 48 = ((a1 / 10) % 10) → V60 90 49 = (a1 % 10) → V60 90 42 = y14 → V60 90 43 = y27 → V60 90 47 = y40 → pm_h1 V60 → (V60 90 44 ≤ 1539 * x58) → (V60 90 45 ≤ 171 * x58) → (V60 90 46 ≤ 263169 * x58) → (((a1 / 10) % 10) < x58 → 1 ≤ V60 110 (((a1 / 10) % 10)).toNat) → ((a1 % 10) < x58 → 1 ≤ V60 111 ((a1 % 10)).toNat) → (Int.toNat (9 - x58)) = N79 → pm_J X 163 [(0, (3, 90)), (1, (0, a1)), (2, (0, a2)), (3, (0, a3)), (4, (0, (4 * (a1 / 100)))), (5, (0, y32)), (6, (0, x58))] [] 118 V60 := by
      intro N79
      induction N79 using Nat.strongRecOn with
      | _ N79 ih80 =>
      intro x58 V60 b59 hV61 hF62 e63 e64 e65 e66 e67 e68 e69 e70 hp71 hm72 hm73 hm74 hx75 hx76 hm78
      refine pm_iload hC 6 dX12_works_163 rfl ?_
      refine pm_aload_n hC 0 (by decide) dX12_works_165 rfl ?_
      obtain ⟨y81, e82⟩ : ∃ y, V60 90 16 = y := ⟨_, rfl⟩
      have b83 := hV61.get 90 16 (lo := 2) (hi := 9) (by decide) (by decide) rfl
      rw [e82] at b83
      refine pm_getf (v := y81) hC 90 fl_X12_220 rfl rfl (by decide) rfl e82 dX12_works_166 ?_
      refine pm_icmp_ge (tgt := 337) hC ⟨by omega, by omega⟩ ⟨by omega, by omega⟩ dX12_works_169 (by decide) (fun c84 => ?_) (fun c84 => ?_)
      · skip
        have q85 : 1 ≤ V60 90 42 ∧ V60 90 42 ≤ 171 := by (have e : V60 90 42 = y14 := e68); rw [e]; exact ⟨by omega, by omega⟩
        have q86 : 1 ≤ V60 90 43 ∧ V60 90 43 ≤ 171 := by (have e : V60 90 43 = y27 := e69); rw [e]; exact ⟨by omega, by omega⟩
        exact pm_vret hC hR ⟨rfl, hV61, hF62, q85, q86, (by unfold pm_w1; rw [e66, e67, e82]; exact ⟨by omega, by omega, by omega, by omega, hx75 (by omega), hx76 (by omega)⟩)⟩ dX12_works_337
      · skip
        refine pm_aload_n hC 0 (by decide) dX12_works_172 rfl ?_
        have e87 : V60 90 40 = 110 := hV61.one 90 40 (by decide) (by decide) rfl
        refine pm_getf (v := 110) hC 90 fl_X12_70 rfl rfl (by decide) rfl e87 dX12_works_173 ?_
        refine pm_iload hC 6 dX12_works_176 rfl ?_
        refine pm_iconst (v := 0) hC dX12_works_178 ?_
        refine pm_aload_n hC 0 (by decide) dX12_works_179 rfl ?_
        have e88 : V60 90 17 = 97 := hV61.one 90 17 (by decide) (by decide) rfl
        refine pm_getf (v := 97) hC 90 fl_X12_31 rfl rfl (by decide) rfl e88 dX12_works_180 ?_
        refine pm_iconst (v := 3) hC dX12_works_183 ?_
        refine pm_iload hC 6 dX12_works_184 rfl ?_
        refine pm_imul hC dX12_works_186 ?_
        refine pm_iconst (v := 2) hC dX12_works_187 ?_
        refine pm_iadd hC dX12_works_188 ?_
        obtain ⟨y89, e90⟩ : ∃ y, V60 97 (((3 * x58) + 2) : Int).toNat = y := ⟨_, rfl⟩
        have b91 := hV61.get 97 (((3 * x58) + 2) : Int).toNat (lo := 0) (hi := 9) (t := 0) (by decide) (show _ < 27 by omega) ((pm_qe_r (tb := pm_qB) (k := 97) (i := (((3 * x58) + 2) : Int).toNat) (m := 3) (r := 2) (l := [(0, 99, 0), (0, 99, 0), (0, 9, 0)]) rfl rfl (by omega)).trans rfl)
        rw [e90] at b91
        refine pm_iaload (len := 27) (v := y89) hC 97 rfl rfl (by decide) ⟨by omega, by omega⟩ (by decide) e90 dX12_works_189 ?_
        refine pm_aload_n hC 0 (by decide) dX12_works_190 rfl ?_
        refine pm_getf (v := y14) hC 90 fl_X12_317 rfl rfl (by decide) rfl e68 dX12_works_191 ?_
        refine pm_aload_n hC 0 (by decide) dX12_works_194 rfl ?_
        refine pm_iload hC 6 dX12_works_195 rfl ?_
        refine pm_callV (ci := 12) (as := [(0, x58)]) (st := [(0, y14), (0, y89), (0, 0), (0, x58), (3, 110)]) hC 90 (B_X12_x x58 ⟨by omega, by omega⟩) lm_X12_335 li_X12_x (by decide) (by decide) rfl rfl rfl (by decide) rfl rfl (Nat.le_of_ble_eq_true rfl) ⟨Nat.le_refl _, Or.inl rfl⟩ dX12_works_197 ⟨rfl, hV61⟩ (fun r92 V93 hp94 => ?_)
        obtain ⟨y95, rfl, b96, rfl⟩ := hp94
        change pm_J X 200 [(0, (3, 90)), (1, (0, a1)), (2, (0, a2)), (3, (0, a3)), (4, (0, (4 * (a1 / 100)))), (5, (0, y32)), (6, (0, x58))] [(0, y95), (0, y14), (0, y89), (0, 0), (0, x58), (3, 110)] 118 V60
        refine pm_aload_n hC 0 (by decide) dX12_works_200 rfl ?_
        refine pm_aload_n hC 0 (by decide) dX12_works_201 rfl ?_
        refine pm_getf (v := ((a1 / 10) % 10)) hC 90 fl_X12_305 rfl rfl (by decide) rfl e66 dX12_works_202 ?_
        refine pm_callV (ci := 12) (as := [(0, ((a1 / 10) % 10))]) (st := [(0, y95), (0, y14), (0, y89), (0, 0), (0, x58), (3, 110)]) hC 90 (B_X12_x ((a1 / 10) % 10) ⟨by omega, by omega⟩) lm_X12_335 li_X12_x (by decide) (by decide) rfl rfl rfl (by decide) rfl rfl (Nat.le_of_ble_eq_true rfl) ⟨Nat.le_refl _, Or.inl rfl⟩ dX12_works_205 ⟨rfl, hV61⟩ (fun r97 V98 hp99 => ?_)
        obtain ⟨y100, rfl, b101, rfl⟩ := hp99
        change pm_J X 208 [(0, (3, 90)), (1, (0, a1)), (2, (0, a2)), (3, (0, a3)), (4, (0, (4 * (a1 / 100)))), (5, (0, y32)), (6, (0, x58))] [(0, y100), (0, y95), (0, y14), (0, y89), (0, 0), (0, x58), (3, 110)] 118 V60
        refine pm_isub hC dX12_works_208 ?_
        refine pm_callS (as := [(0, (y95 - y100))]) (st := [(0, y14), (0, y89), (0, 0), (0, x58), (3, 110)]) hC (B_X12_far (y95 - y100) ⟨by omega, by omega⟩) lm_X12_338 ls_X12_far (by decide) (by decide) rfl rfl (Nat.le_of_ble_eq_true rfl) ⟨Nat.le_refl _, Or.inl rfl⟩ dX12_works_209 ⟨rfl, hV61⟩ (fun r102 V103 hp104 => ?_)
        obtain ⟨y105, rfl, b106, rfl⟩ := hp104
        change pm_J X 212 [(0, (3, 90)), (1, (0, a1)), (2, (0, a2)), (3, (0, a3)), (4, (0, (4 * (a1 / 100)))), (5, (0, y32)), (6, (0, x58))] [(0, y105), (0, y14), (0, y89), (0, 0), (0, x58), (3, 110)] 118 V60
        refine pm_isub hC dX12_works_212 ?_
        refine pm_aload_n hC 0 (by decide) dX12_works_213 rfl ?_
        refine pm_iload hC 6 dX12_works_214 rfl ?_
        refine pm_callV (ci := 12) (as := [(0, x58)]) (st := [(0, (y14 - y105)), (0, y89), (0, 0), (0, x58), (3, 110)]) hC 90 (B_X12_y x58 ⟨by omega, by omega⟩) lm_X12_341 li_X12_y (by decide) (by decide) rfl rfl rfl (by decide) rfl rfl (Nat.le_of_ble_eq_true rfl) ⟨Nat.le_refl _, Or.inl rfl⟩ dX12_works_216 ⟨rfl, hV61⟩ (fun r107 V108 hp109 => ?_)
        obtain ⟨y110, rfl, b111, rfl⟩ := hp109
        change pm_J X 219 [(0, (3, 90)), (1, (0, a1)), (2, (0, a2)), (3, (0, a3)), (4, (0, (4 * (a1 / 100)))), (5, (0, y32)), (6, (0, x58))] [(0, y110), (0, (y14 - y105)), (0, y89), (0, 0), (0, x58), (3, 110)] 118 V60
        refine pm_aload_n hC 0 (by decide) dX12_works_219 rfl ?_
        refine pm_aload_n hC 0 (by decide) dX12_works_220 rfl ?_
        refine pm_getf (v := ((a1 / 10) % 10)) hC 90 fl_X12_305 rfl rfl (by decide) rfl e66 dX12_works_221 ?_
        refine pm_callV (ci := 12) (as := [(0, ((a1 / 10) % 10))]) (st := [(0, y110), (0, (y14 - y105)), (0, y89), (0, 0), (0, x58), (3, 110)]) hC 90 (B_X12_y ((a1 / 10) % 10) ⟨by omega, by omega⟩) lm_X12_341 li_X12_y (by decide) (by decide) rfl rfl rfl (by decide) rfl rfl (Nat.le_of_ble_eq_true rfl) ⟨Nat.le_refl _, Or.inl rfl⟩ dX12_works_224 ⟨rfl, hV61⟩ (fun r112 V113 hp114 => ?_)
        obtain ⟨y115, rfl, b116, rfl⟩ := hp114
        change pm_J X 227 [(0, (3, 90)), (1, (0, a1)), (2, (0, a2)), (3, (0, a3)), (4, (0, (4 * (a1 / 100)))), (5, (0, y32)), (6, (0, x58))] [(0, y115), (0, y110), (0, (y14 - y105)), (0, y89), (0, 0), (0, x58), (3, 110)] 118 V60
        refine pm_isub hC dX12_works_227 ?_
        refine pm_callS (as := [(0, (y110 - y115))]) (st := [(0, (y14 - y105)), (0, y89), (0, 0), (0, x58), (3, 110)]) hC (B_X12_far (y110 - y115) ⟨by omega, by omega⟩) lm_X12_338 ls_X12_far (by decide) (by decide) rfl rfl (Nat.le_of_ble_eq_true rfl) ⟨Nat.le_refl _, Or.inl rfl⟩ dX12_works_228 ⟨rfl, hV61⟩ (fun r117 V118 hp119 => ?_)
        obtain ⟨y120, rfl, b121, rfl⟩ := hp119
        change pm_J X 231 [(0, (3, 90)), (1, (0, a1)), (2, (0, a2)), (3, (0, a3)), (4, (0, (4 * (a1 / 100)))), (5, (0, y32)), (6, (0, x58))] [(0, y120), (0, (y14 - y105)), (0, y89), (0, 0), (0, x58), (3, 110)] 118 V60
        refine pm_isub hC dX12_works_231 ?_
        refine pm_imul hC dX12_works_232 ?_
        have b123 : (-1773) ≤ (y89 * ((y14 - y105) - y120)) ∧ (y89 * ((y14 - y105) - y120)) ≤ 1539 := pm_mulg (a := 0) (b := 9) (c := (-197)) (d := 171) ⟨by omega, by omega⟩ ⟨by omega, by omega⟩ (by decide) (by decide)
        generalize hey122 : (y89 * ((y14 - y105) - y120)) = y122 at b123 ⊢
        refine pm_mmax hC 7047 4012 1018 4013 ⟨by decide, by decide⟩ ⟨by omega, by omega⟩ (by decide) wL_X12_311 wS_mmax wI_math wC_mmax (Nat.le_of_ble_eq_true rfl) dX12_works_233 (fun y124 b125 => ?_)
        have hv126 : ((a1 / 10) % 10) = x58 → 1 ≤ y124 := by
          intro hq
          have q1 : V60 97 (3 * x58).toNat = V60 97 (3 * ((a1 / 10) % 10)).toNat := by rw [hq]
          have q2 : V60 97 (3 * x58 + 1).toNat = V60 97 (3 * ((a1 / 10) % 10) + 1).toNat := by rw [hq]
          have hh := hp71 x58 (by omega) (by omega)
          have hp : 1 ≤ y89 * ((y14 - y105) - y120) := pm_mul1 (by omega) (by omega)
          omega
        refine pm_iastore (len := 9) hC 110 rfl rfl (by decide) ⟨by omega, by omega⟩ (by decide) dX12_works_236 ?_
        refine pm_aload_n hC 0 (by decide) dX12_works_237 rfl ?_
        have e127 : V60 90 41 = 111 := hV61.one 90 41 (by decide) (by decide) rfl
        refine pm_getf (v := 111) hC 90 fl_X12_73 rfl rfl (by decide) rfl e127 dX12_works_238 ?_
        refine pm_iload hC 6 dX12_works_241 rfl ?_
        refine pm_iconst (v := 0) hC dX12_works_243 ?_
        refine pm_aload_n hC 0 (by decide) dX12_works_244 rfl ?_
        refine pm_getf (v := y27) hC 90 fl_X12_320 rfl rfl (by decide) rfl e69 dX12_works_245 ?_
        refine pm_aload_n hC 0 (by decide) dX12_works_248 rfl ?_
        refine pm_iload hC 6 dX12_works_249 rfl ?_
        refine pm_callV (ci := 12) (as := [(0, x58)]) (st := [(0, y27), (0, 0), (0, x58), (3, 111)]) hC 90 (B_X12_x x58 ⟨by omega, by omega⟩) lm_X12_335 li_X12_x (by decide) (by decide) rfl rfl rfl (by decide) rfl rfl (Nat.le_of_ble_eq_true rfl) ⟨Nat.le_refl _, Or.inl rfl⟩ dX12_works_251 ⟨rfl, (hV61.put 110 (x58 : Int).toNat (x := y124) (lo := 0) (hi := 1539) rfl ⟨by omega, by omega⟩)⟩ (fun r128 V129 hp130 => ?_)
        obtain ⟨y131, rfl, b132, rfl⟩ := hp130
        change pm_J X 254 [(0, (3, 90)), (1, (0, a1)), (2, (0, a2)), (3, (0, a3)), (4, (0, (4 * (a1 / 100)))), (5, (0, y32)), (6, (0, x58))] [(0, y131), (0, y27), (0, 0), (0, x58), (3, 111)] 118 (pm_up V60 110 (x58 : Int).toNat y124)
        refine pm_aload_n hC 0 (by decide) dX12_works_254 rfl ?_
        refine pm_aload_n hC 0 (by decide) dX12_works_255 rfl ?_
        refine pm_getf (v := (a1 % 10)) hC 90 fl_X12_308 rfl rfl (by decide) rfl e67 dX12_works_256 ?_
        refine pm_callV (ci := 12) (as := [(0, (a1 % 10))]) (st := [(0, y131), (0, y27), (0, 0), (0, x58), (3, 111)]) hC 90 (B_X12_x (a1 % 10) ⟨by omega, by omega⟩) lm_X12_335 li_X12_x (by decide) (by decide) rfl rfl rfl (by decide) rfl rfl (Nat.le_of_ble_eq_true rfl) ⟨Nat.le_refl _, Or.inl rfl⟩ dX12_works_259 ⟨rfl, (hV61.put 110 (x58 : Int).toNat (x := y124) (lo := 0) (hi := 1539) rfl ⟨by omega, by omega⟩)⟩ (fun r133 V134 hp135 => ?_)
        obtain ⟨y136, rfl, b137, rfl⟩ := hp135
        change pm_J X 262 [(0, (3, 90)), (1, (0, a1)), (2, (0, a2)), (3, (0, a3)), (4, (0, (4 * (a1 / 100)))), (5, (0, y32)), (6, (0, x58))] [(0, y136), (0, y131), (0, y27), (0, 0), (0, x58), (3, 111)] 118 (pm_up V60 110 (x58 : Int).toNat y124)
        refine pm_isub hC dX12_works_262 ?_
        refine pm_callS (as := [(0, (y131 - y136))]) (st := [(0, y27), (0, 0), (0, x58), (3, 111)]) hC (B_X12_far (y131 - y136) ⟨by omega, by omega⟩) lm_X12_338 ls_X12_far (by decide) (by decide) rfl rfl (Nat.le_of_ble_eq_true rfl) ⟨Nat.le_refl _, Or.inl rfl⟩ dX12_works_263 ⟨rfl, (hV61.put 110 (x58 : Int).toNat (x := y124) (lo := 0) (hi := 1539) rfl ⟨by omega, by omega⟩)⟩ (fun r138 V139 hp140 => ?_)
        obtain ⟨y141, rfl, b142, rfl⟩ := hp140
        change pm_J X 266 [(0, (3, 90)), (1, (0, a1)), (2, (0, a2)), (3, (0, a3)), (4, (0, (4 * (a1 / 100)))), (5, (0, y32)), (6, (0, x58))] [(0, y141), (0, y27), (0, 0), (0, x58), (3, 111)] 118 (pm_up V60 110 (x58 : Int).toNat y124)
        refine pm_isub hC dX12_works_266 ?_
        refine pm_mmax hC 7047 4012 1018 4013 ⟨by decide, by decide⟩ ⟨by omega, by omega⟩ (by decide) wL_X12_311 wS_mmax wI_math wC_mmax (Nat.le_of_ble_eq_true rfl) dX12_works_267 (fun y143 b144 => ?_)
        have hv145 : (a1 % 10) = x58 → 1 ≤ y143 := by
          intro hq
          have q1 : V60 97 (3 * x58).toNat = V60 97 (3 * (a1 % 10)).toNat := by rw [hq]
          omega
        refine pm_iastore (len := 9) hC 111 rfl rfl (by decide) ⟨by omega, by omega⟩ (by decide) dX12_works_270 ?_
        refine pm_aload_n hC 0 (by decide) dX12_works_271 rfl ?_
        refine pm_dup hC rfl dX12_works_272 ?_
        obtain ⟨y146, e147⟩ : ∃ y, V60 90 44 = y := ⟨_, rfl⟩
        have b148 := hV61.get 90 44 (lo := 0) (hi := 13851) (by decide) (by decide) rfl
        rw [e147] at b148
        refine pm_getf (v := y146) hC 90 fl_X12_326 rfl rfl (by decide) rfl e147 dX12_works_273 ?_
        refine pm_aload_n hC 0 (by decide) dX12_works_276 rfl ?_
        refine pm_getf (v := 110) hC 90 fl_X12_70 rfl rfl (by decide) rfl e87 dX12_works_277 ?_
        refine pm_iload hC 6 dX12_works_280 rfl ?_
        have hV151 := ((hV61.put 110 (x58 : Int).toNat (x := y124) (lo := 0) (hi := 1539) rfl ⟨by omega, by omega⟩).put 111 (x58 : Int).toNat (x := y143) (lo := 0) (hi := 171) rfl ⟨by omega, by omega⟩)
        have hF152 := ((hF62.up 110 (x58 : Int).toNat y124 (by decide) rfl).up 111 (x58 : Int).toNat y143 (by decide) rfl)
        obtain ⟨V149, hv150⟩ : ∃ V, V = (pm_up (pm_up V60 110 (x58 : Int).toNat y124) 111 (x58 : Int).toNat y143) := ⟨_, rfl⟩
        rw [← hv150] at hV151 hF152
        rw [← hv150]
        have e153 : V149 90 18 = 98 := by rw [hv150]; exact e63
        have e154 : V149 90 24 = 100 := by rw [hv150]; exact e64
        have e155 : V149 90 20 = y29 := by rw [hv150]; exact e65
        have e156 : V149 90 48 = ((a1 / 10) % 10) := by rw [hv150]; exact e66
        have e157 : V149 90 49 = (a1 % 10) := by rw [hv150]; exact e67
        have e158 : V149 90 42 = y14 := by rw [hv150]; exact e68
        have e159 : V149 90 43 = y27 := by rw [hv150]; exact e69
        have e160 : V149 90 47 = y40 := by rw [hv150]; exact e70
        have e161 : V149 90 16 = y81 := by rw [hv150]; exact e82
        have e162 : V149 90 40 = 110 := by rw [hv150]; exact e87
        have e163 : V149 90 17 = 97 := by rw [hv150]; exact e88
        have e164 : V149 90 41 = 111 := by rw [hv150]; exact e127
        have e165 : V149 90 44 = y146 := by rw [hv150]; exact e147
        have hp166 : pm_h1 V149 := by rw [hv150]; exact (pm_h1.fr hp71 rfl rfl)
        obtain ⟨y167, e168⟩ : ∃ y, V149 110 (x58 : Int).toNat = y := ⟨_, rfl⟩
        have b169 := hV151.get 110 (x58 : Int).toNat (lo := 0) (hi := 1539) (t := 0) (by decide) (show _ < 9 by omega) rfl
        rw [e168] at b169
        refine pm_iaload (len := 9) (v := y167) hC 110 rfl rfl (by decide) ⟨by omega, by omega⟩ (by decide) e168 dX12_works_282 ?_
        refine pm_i2l hC ⟨by omega, by omega⟩ dX12_works_283 ?_
        refine pm_ladd hC dX12_works_284 ?_
        refine pm_putf hC 90 fl_X12_326 rfl rfl rfl (by decide) rfl trivial dX12_works_285 ?_
        refine pm_aload_n hC 0 (by decide) dX12_works_288 rfl ?_
        refine pm_dup hC rfl dX12_works_289 ?_
        obtain ⟨y170, e171⟩ : ∃ y, V149 90 45 = y := ⟨_, rfl⟩
        have b172 := hV151.get 90 45 (lo := 0) (hi := 1539) (by decide) (by decide) rfl
        rw [e171] at b172
        refine pm_getf (v := y170) hC 90 fl_X12_329 rfl rfl (by decide) rfl e171 dX12_works_290 ?_
        refine pm_aload_n hC 0 (by decide) dX12_works_293 rfl ?_
        refine pm_getf (v := 111) hC 90 fl_X12_73 rfl rfl (by decide) rfl e164 dX12_works_294 ?_
        refine pm_iload hC 6 dX12_works_297 rfl ?_
        obtain ⟨y173, e174⟩ : ∃ y, V149 111 (x58 : Int).toNat = y := ⟨_, rfl⟩
        have b175 := hV151.get 111 (x58 : Int).toNat (lo := 0) (hi := 171) (t := 0) (by decide) (show _ < 9 by omega) rfl
        rw [e174] at b175
        refine pm_iaload (len := 9) (v := y173) hC 111 rfl rfl (by decide) ⟨by omega, by omega⟩ (by decide) e174 dX12_works_299 ?_
        refine pm_i2l hC ⟨by omega, by omega⟩ dX12_works_300 ?_
        refine pm_ladd hC dX12_works_301 ?_
        refine pm_putf hC 90 fl_X12_329 rfl rfl rfl (by decide) rfl trivial dX12_works_302 ?_
        refine pm_aload_n hC 0 (by decide) dX12_works_305 rfl ?_
        refine pm_dup hC rfl dX12_works_306 ?_
        obtain ⟨y176, e177⟩ : ∃ y, V149 90 46 = y := ⟨_, rfl⟩
        have b178 := hV151.get 90 46 (lo := 0) (hi := 2368521) (by decide) (by decide) rfl
        rw [e177] at b178
        refine pm_getf (v := y176) hC 90 fl_X12_332 rfl rfl (by decide) rfl e177 dX12_works_307 ?_
        refine pm_aload_n hC 0 (by decide) dX12_works_310 rfl ?_
        refine pm_getf (v := 110) hC 90 fl_X12_70 rfl rfl (by decide) rfl e162 dX12_works_311 ?_
        refine pm_iload hC 6 dX12_works_314 rfl ?_
        refine pm_iaload (len := 9) (v := y167) hC 110 rfl rfl (by decide) ⟨by omega, by omega⟩ (by decide) e168 dX12_works_316 ?_
        refine pm_i2l hC ⟨by omega, by omega⟩ dX12_works_317 ?_
        refine pm_aload_n hC 0 (by decide) dX12_works_318 rfl ?_
        refine pm_getf (v := 111) hC 90 fl_X12_73 rfl rfl (by decide) rfl e164 dX12_works_319 ?_
        refine pm_iload hC 6 dX12_works_322 rfl ?_
        refine pm_iaload (len := 9) (v := y173) hC 111 rfl rfl (by decide) ⟨by omega, by omega⟩ (by decide) e174 dX12_works_324 ?_
        refine pm_i2l hC ⟨by omega, by omega⟩ dX12_works_325 ?_
        refine pm_lmul hC dX12_works_326 ?_
        have b180 : 0 ≤ (y167 * y173) ∧ (y167 * y173) ≤ 263169 := pm_mulb (by omega) (by omega) (show y167 ≤ 1539 by omega) (show y173 ≤ 171 by omega) (by decide)
        generalize (y167 * y173) = y179 at b180 ⊢
        refine pm_ladd hC dX12_works_327 ?_
        refine pm_putf hC 90 fl_X12_332 rfl rfl rfl (by decide) rfl trivial dX12_works_328 ?_
        obtain ⟨x181, ei182⟩ : ∃ y : Int, x58 + 1 = y := ⟨_, rfl⟩
        refine pm_iinc (y := x181) (lv' := [(6, (0, x181)), (0, (3, 90)), (1, (0, a1)), (2, (0, a2)), (3, (0, a3)), (4, (0, (4 * (a1 / 100)))), (5, (0, y32))]) hC 6 dX12_works_331 (by decide) rfl ei182 rfl ?_
        refine pm_goto (tgt := 163) hC dX12_works_334 (by decide) ?_
        refine pm_lvsub [1, 2, 3, 4, 5, 6, 0] (lv' := [(0, (3, 90)), (1, (0, a1)), (2, (0, a2)), (3, (0, a3)), (4, (0, (4 * (a1 / 100)))), (5, (0, y32)), (6, (0, x181))]) rfl ?_
        exact <function vprf.<locals>.p at 0x7f663b5b60c0> _ (by omega) x181 (pm_up (pm_up (pm_up V149 90 44 (y146 + y167)) 90 45 (y170 + y173)) 90 46 (y176 + y179)) ⟨by omega, by omega⟩ (((hV151.put 90 44 (x := (y146 + y167)) (lo := 0) (hi := 13851) rfl ⟨by omega, by omega⟩).put 90 45 (x := (y170 + y173)) (lo := 0) (hi := 1539) rfl ⟨by omega, by omega⟩).put 90 46 (x := (y176 + y179)) (lo := 0) (hi := 2368521) rfl ⟨by omega, by omega⟩) (((hF152.upf 44 (y146 + y167) rfl).upf 45 (y170 + y173) rfl).upf 46 (y176 + y179) rfl) e153 e154 e155 e156 e157 e158 e159 e160 (pm_h1.fr hp166 rfl rfl) (show (y146 + y167) ≤ 1539 * x181 by omega) (show (y170 + y173) ≤ 171 * x181 by omega) (show (y176 + y179) ≤ 263169 * x181 by omega) (fun h => by show 1 ≤ V149 110 (((a1 / 10) % 10)).toNat; rw [hv150]; exact pm_up_get (V := V60) (k := 110) (i := x58) (a := ((a1 / 10) % 10)) (x := y124) (p := fun z => 1 ≤ z) (by omega) (by omega) hv126 (fun hne => hx75 (by omega))) (fun h => by show 1 ≤ V149 111 ((a1 % 10)).toNat; rw [hv150]; exact pm_up_get (V := V60) (k := 111) (i := x58) (a := (a1 % 10)) (x := y143) (p := fun z => 1 ≤ z) (by omega) (by omega) hv145 (fun hne => hx76 (by omega))) rfl
    refine pm_lvsub [3, 4, 5, 6, 2, 1, 0] (lv' := [(0, (3, 90)), (1, (0, a1)), (2, (0, a2)), (3, (0, a3)), (4, (0, (4 * (a1 / 100)))), (5, (0, y32)), (6, (0, 0))]) rfl ?_
    exact <function vprf.<locals>.p at 0x7f663b5b60c0> _ 0 V42 ⟨by decide, by decide⟩ hV44 hF45 e46 e47 e48 e49 e50 e51 e52 e53 hp57 (by (have e : V42 90 44 = 0 := e54); rw [e]; omega) (by (have e : V42 90 45 = 0 := e55); rw [e]; omega) (by (have e : V42 90 46 = 0 := e56); rw [e]; omega) (fun h => absurd h (by omega)) (fun h => absurd h (by omega)) rfl
  · skip
    refine pm_iload_n hC 5 dX12_works_124 rfl ?_
    refine pm_aload_n hC 2 (by decide) dX12_works_125 rfl ?_
    refine pm_getf (v := y29) hC 90 fl_X12_229 rfl rfl (by decide) rfl e30 dX12_works_126 ?_
    refine pm_idiv hC ⟨by omega, by omega, by omega⟩ ⟨by omega, by omega, by omega⟩ dX12_works_129 ?_
    have b184 := pm_divb (x := a3) (y := y29) (by omega) (by omega)
    generalize (a3 / y29) = y183 at b184 ⊢
    refine pm_goto (tgt := 138) hC dX12_works_130 (by decide) ?_
    refine pm_isub hC dX12_works_138 ?_
    refine pm_mmax hC 7047 4012 1018 4013 ⟨by decide, by decide⟩ ⟨by omega, by omega⟩ (by decide) wL_X12_311 wS_mmax wI_math wC_mmax (Nat.le_of_ble_eq_true rfl) dX12_works_139 (fun y185 b186 => ?_)
    refine pm_putf hC 90 fl_X12_323 rfl rfl rfl (by decide) rfl trivial dX12_works_142 ?_
    refine pm_aload_n hC 2 (by decide) dX12_works_145 rfl ?_
    refine pm_lconst (x := 0) hC dX12_works_146 rfl ?_
    refine pm_putf hC 90 fl_X12_326 rfl rfl rfl (by decide) rfl trivial dX12_works_147 ?_
    refine pm_aload_n hC 2 (by decide) dX12_works_150 rfl ?_
    refine pm_lconst (x := 0) hC dX12_works_151 rfl ?_
    refine pm_putf hC 90 fl_X12_329 rfl rfl rfl (by decide) rfl trivial dX12_works_152 ?_
    refine pm_aload_n hC 2 (by decide) dX12_works_155 rfl ?_
    refine pm_lconst (x := 0) hC dX12_works_156 rfl ?_
    refine pm_putf hC 90 fl_X12_332 rfl rfl rfl (by decide) rfl trivial dX12_works_157 ?_
    refine pm_iconst (v := 0) hC dX12_works_160 ?_
    refine pm_istore (lv' := [(6, (0, 0)), (5, (0, y32)), (4, (0, (4 * (a1 / 100)))), (0, (3, 90)), (1, (0, a1)), (2, (0, a2)), (3, (0, a3))]) hC dX12_works_161 (by decide) rfl ?_
    have hV189 := ((((((((hV0.put 90 48 (x := ((a1 / 10) % 10)) (lo := 0) (hi := 8) rfl ⟨by omega, by omega⟩).put 90 49 (x := (a1 % 10)) (lo := 0) (hi := 8) rfl ⟨by omega, by omega⟩).put 90 42 (x := y14) (lo := 0) (hi := 171) rfl ⟨by omega, by omega⟩).put 90 43 (x := y27) (lo := 0) (hi := 171) rfl ⟨by omega, by omega⟩).put 90 47 (x := y185) (lo := 0) (hi := 16) rfl ⟨by omega, by omega⟩).put 90 44 (x := 0) (lo := 0) (hi := 13851) rfl ⟨by decide, by decide⟩).put 90 45 (x := 0) (lo := 0) (hi := 1539) rfl ⟨by decide, by decide⟩).put 90 46 (x := 0) (lo := 0) (hi := 2368521) rfl ⟨by decide, by decide⟩)
    have hF190 := (((((((((pm_fs.rf (cs := [110, 111]) (fs := [42, 43, 44, 45, 46, 47, 48, 49]) (V := V0)).upf 48 ((a1 / 10) % 10) rfl).upf 49 (a1 % 10) rfl).upf 42 y14 rfl).upf 43 y27 rfl).upf 47 y185 rfl).upf 44 0 rfl).upf 45 0 rfl).upf 46 0 rfl)
    obtain ⟨V187, hv188⟩ : ∃ V, V = (pm_up (pm_up (pm_up (pm_up (pm_up (pm_up (pm_up (pm_up V0 90 48 ((a1 / 10) % 10)) 90 49 (a1 % 10)) 90 42 y14) 90 43 y27) 90 47 y185) 90 44 0) 90 45 0) 90 46 0) := ⟨_, rfl⟩
    rw [← hv188] at hV189 hF190
    rw [← hv188]
    have e191 : V187 90 18 = 98 := by rw [hv188]; exact e1
    have e192 : V187 90 24 = 100 := by rw [hv188]; exact e5
    have e193 : V187 90 20 = y29 := by rw [hv188]; exact e30
    have e194 : V187 90 48 = ((a1 / 10) % 10) := by rw [hv188]; rfl
    have e195 : V187 90 49 = (a1 % 10) := by rw [hv188]; rfl
    have e196 : V187 90 42 = y14 := by rw [hv188]; rfl
    have e197 : V187 90 43 = y27 := by rw [hv188]; rfl
    have e198 : V187 90 47 = y185 := by rw [hv188]; rfl
    have e199 : V187 90 44 = 0 := by rw [hv188]; rfl
    have e200 : V187 90 45 = 0 := by rw [hv188]; rfl
    have e201 : V187 90 46 = 0 := by rw [hv188]; rfl
    have hp202 : pm_h1 V187 := by rw [hv188]; exact (pm_h1.fr hn_pm_h1 rfl rfl)
    have L222 : ∀ (N224 : Nat) (x203 : Int) (V205 : pm_M), (0 ≤ x203 ∧ x203 ≤ 9) → pm_oq pm_qB V205 → pm_fs [110, 111] [42, 43, 44, 45, 46, 47, 48, 49] V0 V205 → V205 90 18 = 98 → V205 90 24 = 100 → V205 90 20 = y29 → V205 90 48 = ((a1 / 10) % 10) → V205 90 49 = (a1 % 10) → V205 90 42 = y14 → V205 90 43 = y27 → V205 90 47 = y185 → pm_h1 V205 → (V205 90 44 ≤ 1539 * x203) → (V205 90 45 ≤ 171 * x203) → (V205 90 46 ≤ 263169 * x203) → (((a1 / 10) % 10) < x203 → 1 ≤ V205 110 (((a1 / 10) % 10)).toNat) → ((a1 % 10) < x203 → 1 ≤ V205 111 ((a1 % 10)).toNat) → (Int.toNat (9 - x203)) = N224 → pm_J X 163 [(0, (3, 90)), (1, (0, a1)), (2, (0, a2)), (3, (0, a3)), (4, (0, (4 * (a1 / 100)))), (5, (0, y32)), (6, (0, x203))] [] 118 V205 := by
      intro N224
      induction N224 using Nat.strongRecOn with
      | _ N224 ih225 =>
      intro x203 V205 b204 hV206 hF207 e208 e209 e210 e211 e212 e213 e214 e215 hp216 hm217 hm218 hm219 hx220 hx221 hm223
      refine pm_iload hC 6 dX12_works_163 rfl ?_
      refine pm_aload_n hC 0 (by decide) dX12_works_165 rfl ?_
      obtain ⟨y226, e227⟩ : ∃ y, V205 90 16 = y := ⟨_, rfl⟩
      have b228 := hV206.get 90 16 (lo := 2) (hi := 9) (by decide) (by decide) rfl
      rw [e227] at b228
      refine pm_getf (v := y226) hC 90 fl_X12_220 rfl rfl (by decide) rfl e227 dX12_works_166 ?_
      refine pm_icmp_ge (tgt := 337) hC ⟨by omega, by omega⟩ ⟨by omega, by omega⟩ dX12_works_169 (by decide) (fun c229 => ?_) (fun c229 => ?_)
      · skip
        have q230 : 1 ≤ V205 90 42 ∧ V205 90 42 ≤ 171 := by (have e : V205 90 42 = y14 := e213); rw [e]; exact ⟨by omega, by omega⟩
        have q231 : 1 ≤ V205 90 43 ∧ V205 90 43 ≤ 171 := by (have e : V205 90 43 = y27 := e214); rw [e]; exact ⟨by omega, by omega⟩
        exact pm_vret hC hR ⟨rfl, hV206, hF207, q230, q231, (by unfold pm_w1; rw [e211, e212, e227]; exact ⟨by omega, by omega, by omega, by omega, hx220 (by omega), hx221 (by omega)⟩)⟩ dX12_works_337
      · skip
        refine pm_aload_n hC 0 (by decide) dX12_works_172 rfl ?_
        have e232 : V205 90 40 = 110 := hV206.one 90 40 (by decide) (by decide) rfl
        refine pm_getf (v := 110) hC 90 fl_X12_70 rfl rfl (by decide) rfl e232 dX12_works_173 ?_
        refine pm_iload hC 6 dX12_works_176 rfl ?_
        refine pm_iconst (v := 0) hC dX12_works_178 ?_
        refine pm_aload_n hC 0 (by decide) dX12_works_179 rfl ?_
        have e233 : V205 90 17 = 97 := hV206.one 90 17 (by decide) (by decide) rfl
        refine pm_getf (v := 97) hC 90 fl_X12_31 rfl rfl (by decide) rfl e233 dX12_works_180 ?_
        refine pm_iconst (v := 3) hC dX12_works_183 ?_
        refine pm_iload hC 6 dX12_works_184 rfl ?_
        refine pm_imul hC dX12_works_186 ?_
        refine pm_iconst (v := 2) hC dX12_works_187 ?_
        refine pm_iadd hC dX12_works_188 ?_
        obtain ⟨y234, e235⟩ : ∃ y, V205 97 (((3 * x203) + 2) : Int).toNat = y := ⟨_, rfl⟩
        have b236 := hV206.get 97 (((3 * x203) + 2) : Int).toNat (lo := 0) (hi := 9) (t := 0) (by decide) (show _ < 27 by omega) ((pm_qe_r (tb := pm_qB) (k := 97) (i := (((3 * x203) + 2) : Int).toNat) (m := 3) (r := 2) (l := [(0, 99, 0), (0, 99, 0), (0, 9, 0)]) rfl rfl (by omega)).trans rfl)
        rw [e235] at b236
        refine pm_iaload (len := 27) (v := y234) hC 97 rfl rfl (by decide) ⟨by omega, by omega⟩ (by decide) e235 dX12_works_189 ?_
        refine pm_aload_n hC 0 (by decide) dX12_works_190 rfl ?_
        refine pm_getf (v := y14) hC 90 fl_X12_317 rfl rfl (by decide) rfl e213 dX12_works_191 ?_
        refine pm_aload_n hC 0 (by decide) dX12_works_194 rfl ?_
        refine pm_iload hC 6 dX12_works_195 rfl ?_
        refine pm_callV (ci := 12) (as := [(0, x203)]) (st := [(0, y14), (0, y234), (0, 0), (0, x203), (3, 110)]) hC 90 (B_X12_x x203 ⟨by omega, by omega⟩) lm_X12_335 li_X12_x (by decide) (by decide) rfl rfl rfl (by decide) rfl rfl (Nat.le_of_ble_eq_true rfl) ⟨Nat.le_refl _, Or.inl rfl⟩ dX12_works_197 ⟨rfl, hV206⟩ (fun r237 V238 hp239 => ?_)
        obtain ⟨y240, rfl, b241, rfl⟩ := hp239
        change pm_J X 200 [(0, (3, 90)), (1, (0, a1)), (2, (0, a2)), (3, (0, a3)), (4, (0, (4 * (a1 / 100)))), (5, (0, y32)), (6, (0, x203))] [(0, y240), (0, y14), (0, y234), (0, 0), (0, x203), (3, 110)] 118 V205
        refine pm_aload_n hC 0 (by decide) dX12_works_200 rfl ?_
        refine pm_aload_n hC 0 (by decide) dX12_works_201 rfl ?_
        refine pm_getf (v := ((a1 / 10) % 10)) hC 90 fl_X12_305 rfl rfl (by decide) rfl e211 dX12_works_202 ?_
        refine pm_callV (ci := 12) (as := [(0, ((a1 / 10) % 10))]) (st := [(0, y240), (0, y14), (0, y234), (0, 0), (0, x203), (3, 110)]) hC 90 (B_X12_x ((a1 / 10) % 10) ⟨by omega, by omega⟩) lm_X12_335 li_X12_x (by decide) (by decide) rfl rfl rfl (by decide) rfl rfl (Nat.le_of_ble_eq_true rfl) ⟨Nat.le_refl _, Or.inl rfl⟩ dX12_works_205 ⟨rfl, hV206⟩ (fun r242 V243 hp244 => ?_)
        obtain ⟨y245, rfl, b246, rfl⟩ := hp244
        change pm_J X 208 [(0, (3, 90)), (1, (0, a1)), (2, (0, a2)), (3, (0, a3)), (4, (0, (4 * (a1 / 100)))), (5, (0, y32)), (6, (0, x203))] [(0, y245), (0, y240), (0, y14), (0, y234), (0, 0), (0, x203), (3, 110)] 118 V205
        refine pm_isub hC dX12_works_208 ?_
        refine pm_callS (as := [(0, (y240 - y245))]) (st := [(0, y14), (0, y234), (0, 0), (0, x203), (3, 110)]) hC (B_X12_far (y240 - y245) ⟨by omega, by omega⟩) lm_X12_338 ls_X12_far (by decide) (by decide) rfl rfl (Nat.le_of_ble_eq_true rfl) ⟨Nat.le_refl _, Or.inl rfl⟩ dX12_works_209 ⟨rfl, hV206⟩ (fun r247 V248 hp249 => ?_)
        obtain ⟨y250, rfl, b251, rfl⟩ := hp249
        change pm_J X 212 [(0, (3, 90)), (1, (0, a1)), (2, (0, a2)), (3, (0, a3)), (4, (0, (4 * (a1 / 100)))), (5, (0, y32)), (6, (0, x203))] [(0, y250), (0, y14), (0, y234), (0, 0), (0, x203), (3, 110)] 118 V205
        refine pm_isub hC dX12_works_212 ?_
        refine pm_aload_n hC 0 (by decide) dX12_works_213 rfl ?_
        refine pm_iload hC 6 dX12_works_214 rfl ?_
        refine pm_callV (ci := 12) (as := [(0, x203)]) (st := [(0, (y14 - y250)), (0, y234), (0, 0), (0, x203), (3, 110)]) hC 90 (B_X12_y x203 ⟨by omega, by omega⟩) lm_X12_341 li_X12_y (by decide) (by decide) rfl rfl rfl (by decide) rfl rfl (Nat.le_of_ble_eq_true rfl) ⟨Nat.le_refl _, Or.inl rfl⟩ dX12_works_216 ⟨rfl, hV206⟩ (fun r252 V253 hp254 => ?_)
        obtain ⟨y255, rfl, b256, rfl⟩ := hp254
        change pm_J X 219 [(0, (3, 90)), (1, (0, a1)), (2, (0, a2)), (3, (0, a3)), (4, (0, (4 * (a1 / 100)))), (5, (0, y32)), (6, (0, x203))] [(0, y255), (0, (y14 - y250)), (0, y234), (0, 0), (0, x203), (3, 110)] 118 V205
        refine pm_aload_n hC 0 (by decide) dX12_works_219 rfl ?_
        refine pm_aload_n hC 0 (by decide) dX12_works_220 rfl ?_
        refine pm_getf (v := ((a1 / 10) % 10)) hC 90 fl_X12_305 rfl rfl (by decide) rfl e211 dX12_works_221 ?_
        refine pm_callV (ci := 12) (as := [(0, ((a1 / 10) % 10))]) (st := [(0, y255), (0, (y14 - y250)), (0, y234), (0, 0), (0, x203), (3, 110)]) hC 90 (B_X12_y ((a1 / 10) % 10) ⟨by omega, by omega⟩) lm_X12_341 li_X12_y (by decide) (by decide) rfl rfl rfl (by decide) rfl rfl (Nat.le_of_ble_eq_true rfl) ⟨Nat.le_refl _, Or.inl rfl⟩ dX12_works_224 ⟨rfl, hV206⟩ (fun r257 V258 hp259 => ?_)
        obtain ⟨y260, rfl, b261, rfl⟩ := hp259
        change pm_J X 227 [(0, (3, 90)), (1, (0, a1)), (2, (0, a2)), (3, (0, a3)), (4, (0, (4 * (a1 / 100)))), (5, (0, y32)), (6, (0, x203))] [(0, y260), (0, y255), (0, (y14 - y250)), (0, y234), (0, 0), (0, x203), (3, 110)] 118 V205
        refine pm_isub hC dX12_works_227 ?_
        refine pm_callS (as := [(0, (y255 - y260))]) (st := [(0, (y14 - y250)), (0, y234), (0, 0), (0, x203), (3, 110)]) hC (B_X12_far (y255 - y260) ⟨by omega, by omega⟩) lm_X12_338 ls_X12_far (by decide) (by decide) rfl rfl (Nat.le_of_ble_eq_true rfl) ⟨Nat.le_refl _, Or.inl rfl⟩ dX12_works_228 ⟨rfl, hV206⟩ (fun r262 V263 hp264 => ?_)
        obtain ⟨y265, rfl, b266, rfl⟩ := hp264
        change pm_J X 231 [(0, (3, 90)), (1, (0, a1)), (2, (0, a2)), (3, (0, a3)), (4, (0, (4 * (a1 / 100)))), (5, (0, y32)), (6, (0, x203))] [(0, y265), (0, (y14 - y250)), (0, y234), (0, 0), (0, x203), (3, 110)] 118 V205
        refine pm_isub hC dX12_works_231 ?_
        refine pm_imul hC dX12_works_232 ?_
        have b268 : (-1773) ≤ (y234 * ((y14 - y250) - y265)) ∧ (y234 * ((y14 - y250) - y265)) ≤ 1539 := pm_mulg (a := 0) (b := 9) (c := (-197)) (d := 171) ⟨by omega, by omega⟩ ⟨by omega, by omega⟩ (by decide) (by decide)
        generalize hey267 : (y234 * ((y14 - y250) - y265)) = y267 at b268 ⊢
        refine pm_mmax hC 7047 4012 1018 4013 ⟨by decide, by decide⟩ ⟨by omega, by omega⟩ (by decide) wL_X12_311 wS_mmax wI_math wC_mmax (Nat.le_of_ble_eq_true rfl) dX12_works_233 (fun y269 b270 => ?_)
        have hv271 : ((a1 / 10) % 10) = x203 → 1 ≤ y269 := by
          intro hq
          have q1 : V205 97 (3 * x203).toNat = V205 97 (3 * ((a1 / 10) % 10)).toNat := by rw [hq]
          have q2 : V205 97 (3 * x203 + 1).toNat = V205 97 (3 * ((a1 / 10) % 10) + 1).toNat := by rw [hq]
          have hh := hp216 x203 (by omega) (by omega)
          have hp : 1 ≤ y234 * ((y14 - y250) - y265) := pm_mul1 (by omega) (by omega)
          omega
        refine pm_iastore (len := 9) hC 110 rfl rfl (by decide) ⟨by omega, by omega⟩ (by decide) dX12_works_236 ?_
        refine pm_aload_n hC 0 (by decide) dX12_works_237 rfl ?_
        have e272 : V205 90 41 = 111 := hV206.one 90 41 (by decide) (by decide) rfl
        refine pm_getf (v := 111) hC 90 fl_X12_73 rfl rfl (by decide) rfl e272 dX12_works_238 ?_
        refine pm_iload hC 6 dX12_works_241 rfl ?_
        refine pm_iconst (v := 0) hC dX12_works_243 ?_
        refine pm_aload_n hC 0 (by decide) dX12_works_244 rfl ?_
        refine pm_getf (v := y27) hC 90 fl_X12_320 rfl rfl (by decide) rfl e214 dX12_works_245 ?_
        refine pm_aload_n hC 0 (by decide) dX12_works_248 rfl ?_
        refine pm_iload hC 6 dX12_works_249 rfl ?_
        refine pm_callV (ci := 12) (as := [(0, x203)]) (st := [(0, y27), (0, 0), (0, x203), (3, 111)]) hC 90 (B_X12_x x203 ⟨by omega, by omega⟩) lm_X12_335 li_X12_x (by decide) (by decide) rfl rfl rfl (by decide) rfl rfl (Nat.le_of_ble_eq_true rfl) ⟨Nat.le_refl _, Or.inl rfl⟩ dX12_works_251 ⟨rfl, (hV206.put 110 (x203 : Int).toNat (x := y269) (lo := 0) (hi := 1539) rfl ⟨by omega, by omega⟩)⟩ (fun r273 V274 hp275 => ?_)
        obtain ⟨y276, rfl, b277, rfl⟩ := hp275
        change pm_J X 254 [(0, (3, 90)), (1, (0, a1)), (2, (0, a2)), (3, (0, a3)), (4, (0, (4 * (a1 / 100)))), (5, (0, y32)), (6, (0, x203))] [(0, y276), (0, y27), (0, 0), (0, x203), (3, 111)] 118 (pm_up V205 110 (x203 : Int).toNat y269)
        refine pm_aload_n hC 0 (by decide) dX12_works_254 rfl ?_
        refine pm_aload_n hC 0 (by decide) dX12_works_255 rfl ?_
        refine pm_getf (v := (a1 % 10)) hC 90 fl_X12_308 rfl rfl (by decide) rfl e212 dX12_works_256 ?_
        refine pm_callV (ci := 12) (as := [(0, (a1 % 10))]) (st := [(0, y276), (0, y27), (0, 0), (0, x203), (3, 111)]) hC 90 (B_X12_x (a1 % 10) ⟨by omega, by omega⟩) lm_X12_335 li_X12_x (by decide) (by decide) rfl rfl rfl (by decide) rfl rfl (Nat.le_of_ble_eq_true rfl) ⟨Nat.le_refl _, Or.inl rfl⟩ dX12_works_259 ⟨rfl, (hV206.put 110 (x203 : Int).toNat (x := y269) (lo := 0) (hi := 1539) rfl ⟨by omega, by omega⟩)⟩ (fun r278 V279 hp280 => ?_)
        obtain ⟨y281, rfl, b282, rfl⟩ := hp280
        change pm_J X 262 [(0, (3, 90)), (1, (0, a1)), (2, (0, a2)), (3, (0, a3)), (4, (0, (4 * (a1 / 100)))), (5, (0, y32)), (6, (0, x203))] [(0, y281), (0, y276), (0, y27), (0, 0), (0, x203), (3, 111)] 118 (pm_up V205 110 (x203 : Int).toNat y269)
        refine pm_isub hC dX12_works_262 ?_
        refine pm_callS (as := [(0, (y276 - y281))]) (st := [(0, y27), (0, 0), (0, x203), (3, 111)]) hC (B_X12_far (y276 - y281) ⟨by omega, by omega⟩) lm_X12_338 ls_X12_far (by decide) (by decide) rfl rfl (Nat.le_of_ble_eq_true rfl) ⟨Nat.le_refl _, Or.inl rfl⟩ dX12_works_263 ⟨rfl, (hV206.put 110 (x203 : Int).toNat (x := y269) (lo := 0) (hi := 1539) rfl ⟨by omega, by omega⟩)⟩ (fun r283 V284 hp285 => ?_)
        obtain ⟨y286, rfl, b287, rfl⟩ := hp285
        change pm_J X 266 [(0, (3, 90)), (1, (0, a1)), (2, (0, a2)), (3, (0, a3)), (4, (0, (4 * (a1 / 100)))), (5, (0, y32)), (6, (0, x203))] [(0, y286), (0, y27), (0, 0), (0, x203), (3, 111)] 118 (pm_up V205 110 (x203 : Int).toNat y269)
        refine pm_isub hC dX12_works_266 ?_
        refine pm_mmax hC 7047 4012 1018 4013 ⟨by decide, by decide⟩ ⟨by omega, by omega⟩ (by decide) wL_X12_311 wS_mmax wI_math wC_mmax (Nat.le_of_ble_eq_true rfl) dX12_works_267 (fun y288 b289 => ?_)
        have hv290 : (a1 % 10) = x203 → 1 ≤ y288 := by
          intro hq
          have q1 : V205 97 (3 * x203).toNat = V205 97 (3 * (a1 % 10)).toNat := by rw [hq]
          omega
        refine pm_iastore (len := 9) hC 111 rfl rfl (by decide) ⟨by omega, by omega⟩ (by decide) dX12_works_270 ?_
        refine pm_aload_n hC 0 (by decide) dX12_works_271 rfl ?_
        refine pm_dup hC rfl dX12_works_272 ?_
        obtain ⟨y291, e292⟩ : ∃ y, V205 90 44 = y := ⟨_, rfl⟩
        have b293 := hV206.get 90 44 (lo := 0) (hi := 13851) (by decide) (by decide) rfl
        rw [e292] at b293
        refine pm_getf (v := y291) hC 90 fl_X12_326 rfl rfl (by decide) rfl e292 dX12_works_273 ?_
        refine pm_aload_n hC 0 (by decide) dX12_works_276 rfl ?_
        refine pm_getf (v := 110) hC 90 fl_X12_70 rfl rfl (by decide) rfl e232 dX12_works_277 ?_
        refine pm_iload hC 6 dX12_works_280 rfl ?_
        have hV296 := ((hV206.put 110 (x203 : Int).toNat (x := y269) (lo := 0) (hi := 1539) rfl ⟨by omega, by omega⟩).put 111 (x203 : Int).toNat (x := y288) (lo := 0) (hi := 171) rfl ⟨by omega, by omega⟩)
        have hF297 := ((hF207.up 110 (x203 : Int).toNat y269 (by decide) rfl).up 111 (x203 : Int).toNat y288 (by decide) rfl)
        obtain ⟨V294, hv295⟩ : ∃ V, V = (pm_up (pm_up V205 110 (x203 : Int).toNat y269) 111 (x203 : Int).toNat y288) := ⟨_, rfl⟩
        rw [← hv295] at hV296 hF297
        rw [← hv295]
        have e298 : V294 90 18 = 98 := by rw [hv295]; exact e208
        have e299 : V294 90 24 = 100 := by rw [hv295]; exact e209
        have e300 : V294 90 20 = y29 := by rw [hv295]; exact e210
        have e301 : V294 90 48 = ((a1 / 10) % 10) := by rw [hv295]; exact e211
        have e302 : V294 90 49 = (a1 % 10) := by rw [hv295]; exact e212
        have e303 : V294 90 42 = y14 := by rw [hv295]; exact e213
        have e304 : V294 90 43 = y27 := by rw [hv295]; exact e214
        have e305 : V294 90 47 = y185 := by rw [hv295]; exact e215
        have e306 : V294 90 16 = y226 := by rw [hv295]; exact e227
        have e307 : V294 90 40 = 110 := by rw [hv295]; exact e232
        have e308 : V294 90 17 = 97 := by rw [hv295]; exact e233
        have e309 : V294 90 41 = 111 := by rw [hv295]; exact e272
        have e310 : V294 90 44 = y291 := by rw [hv295]; exact e292
        have hp311 : pm_h1 V294 := by rw [hv295]; exact (pm_h1.fr hp216 rfl rfl)
        obtain ⟨y312, e313⟩ : ∃ y, V294 110 (x203 : Int).toNat = y := ⟨_, rfl⟩
        have b314 := hV296.get 110 (x203 : Int).toNat (lo := 0) (hi := 1539) (t := 0) (by decide) (show _ < 9 by omega) rfl
        rw [e313] at b314
        refine pm_iaload (len := 9) (v := y312) hC 110 rfl rfl (by decide) ⟨by omega, by omega⟩ (by decide) e313 dX12_works_282 ?_
        refine pm_i2l hC ⟨by omega, by omega⟩ dX12_works_283 ?_
        refine pm_ladd hC dX12_works_284 ?_
        refine pm_putf hC 90 fl_X12_326 rfl rfl rfl (by decide) rfl trivial dX12_works_285 ?_
        refine pm_aload_n hC 0 (by decide) dX12_works_288 rfl ?_
        refine pm_dup hC rfl dX12_works_289 ?_
        obtain ⟨y315, e316⟩ : ∃ y, V294 90 45 = y := ⟨_, rfl⟩
        have b317 := hV296.get 90 45 (lo := 0) (hi := 1539) (by decide) (by decide) rfl
        rw [e316] at b317
        refine pm_getf (v := y315) hC 90 fl_X12_329 rfl rfl (by decide) rfl e316 dX12_works_290 ?_
        refine pm_aload_n hC 0 (by decide) dX12_works_293 rfl ?_
        refine pm_getf (v := 111) hC 90 fl_X12_73 rfl rfl (by decide) rfl e309 dX12_works_294 ?_
        refine pm_iload hC 6 dX12_works_297 rfl ?_
        obtain ⟨y318, e319⟩ : ∃ y, V294 111 (x203 : Int).toNat = y := ⟨_, rfl⟩
        have b320 := hV296.get 111 (x203 : Int).toNat (lo := 0) (hi := 171) (t := 0) (by decide) (show _ < 9 by omega) rfl
        rw [e319] at b320
        refine pm_iaload (len := 9) (v := y318) hC 111 rfl rfl (by decide) ⟨by omega, by omega⟩ (by decide) e319 dX12_works_299 ?_
        refine pm_i2l hC ⟨by omega, by omega⟩ dX12_works_300 ?_
        refine pm_ladd hC dX12_works_301 ?_
        refine pm_putf hC 90 fl_X12_329 rfl rfl rfl (by decide) rfl trivial dX12_works_302 ?_
        refine pm_aload_n hC 0 (by decide) dX12_works_305 rfl ?_
        refine pm_dup hC rfl dX12_works_306 ?_
        obtain ⟨y321, e322⟩ : ∃ y, V294 90 46 = y := ⟨_, rfl⟩
        have b323 := hV296.get 90 46 (lo := 0) (hi := 2368521) (by decide) (by decide) rfl
        rw [e322] at b323
        refine pm_getf (v := y321) hC 90 fl_X12_332 rfl rfl (by decide) rfl e322 dX12_works_307 ?_
        refine pm_aload_n hC 0 (by decide) dX12_works_310 rfl ?_
        refine pm_getf (v := 110) hC 90 fl_X12_70 rfl rfl (by decide) rfl e307 dX12_works_311 ?_
        refine pm_iload hC 6 dX12_works_314 rfl ?_
        refine pm_iaload (len := 9) (v := y312) hC 110 rfl rfl (by decide) ⟨by omega, by omega⟩ (by decide) e313 dX12_works_316 ?_
        refine pm_i2l hC ⟨by omega, by omega⟩ dX12_works_317 ?_
        refine pm_aload_n hC 0 (by decide) dX12_works_318 rfl ?_
        refine pm_getf (v := 111) hC 90 fl_X12_73 rfl rfl (by decide) rfl e309 dX12_works_319 ?_
        refine pm_iload hC 6 dX12_works_322 rfl ?_
        refine pm_iaload (len := 9) (v := y318) hC 111 rfl rfl (by decide) ⟨by omega, by omega⟩ (by decide) e319 dX12_works_324 ?_
        refine pm_i2l hC ⟨by omega, by omega⟩ dX12_works_325 ?_
        refine pm_lmul hC dX12_works_326 ?_
        have b325 : 0 ≤ (y312 * y318) ∧ (y312 * y318) ≤ 263169 := pm_mulb (by omega) (by omega) (show y312 ≤ 1539 by omega) (show y318 ≤ 171 by omega) (by decide)
        generalize (y312 * y318) = y324 at b325 ⊢
        refine pm_ladd hC dX12_works_327 ?_
        refine pm_putf hC 90 fl_X12_332 rfl rfl rfl (by decide) rfl trivial dX12_works_328 ?_
        obtain ⟨x326, ei327⟩ : ∃ y : Int, x203 + 1 = y := ⟨_, rfl⟩
        refine pm_iinc (y := x326) (lv' := [(6, (0, x326)), (0, (3, 90)), (1, (0, a1)), (2, (0, a2)), (3, (0, a3)), (4, (0, (4 * (a1 / 100)))), (5, (0, y32))]) hC 6 dX12_works_331 (by decide) rfl ei327 rfl ?_
        refine pm_goto (tgt := 163) hC dX12_works_334 (by decide) ?_
        refine pm_lvsub [1, 2, 3, 4, 5, 6, 0] (lv' := [(0, (3, 90)), (1, (0, a1)), (2, (0, a2)), (3, (0, a3)), (4, (0, (4 * (a1 / 100)))), (5, (0, y32)), (6, (0, x326))]) rfl ?_
        exact <function vprf.<locals>.p at 0x7f663b5b60c0> _ (by omega) x326 (pm_up (pm_up (pm_up V294 90 44 (y291 + y312)) 90 45 (y315 + y318)) 90 46 (y321 + y324)) ⟨by omega, by omega⟩ (((hV296.put 90 44 (x := (y291 + y312)) (lo := 0) (hi := 13851) rfl ⟨by omega, by omega⟩).put 90 45 (x := (y315 + y318)) (lo := 0) (hi := 1539) rfl ⟨by omega, by omega⟩).put 90 46 (x := (y321 + y324)) (lo := 0) (hi := 2368521) rfl ⟨by omega, by omega⟩) (((hF297.upf 44 (y291 + y312) rfl).upf 45 (y315 + y318) rfl).upf 46 (y321 + y324) rfl) e298 e299 e300 e301 e302 e303 e304 e305 (pm_h1.fr hp311 rfl rfl) (show (y291 + y312) ≤ 1539 * x326 by omega) (show (y315 + y318) ≤ 171 * x326 by omega) (show (y321 + y324) ≤ 263169 * x326 by omega) (fun h => by show 1 ≤ V294 110 (((a1 / 10) % 10)).toNat; rw [hv295]; exact pm_up_get (V := V205) (k := 110) (i := x203) (a := ((a1 / 10) % 10)) (x := y269) (p := fun z => 1 ≤ z) (by omega) (by omega) hv271 (fun hne => hx220 (by omega))) (fun h => by show 1 ≤ V294 111 ((a1 % 10)).toNat; rw [hv295]; exact pm_up_get (V := V205) (k := 111) (i := x203) (a := (a1 % 10)) (x := y288) (p := fun z => 1 ≤ z) (by omega) (by omega) hv290 (fun hne => hx221 (by omega))) rfl
    refine pm_lvsub [3, 4, 5, 6, 2, 1, 0] (lv' := [(0, (3, 90)), (1, (0, a1)), (2, (0, a2)), (3, (0, a3)), (4, (0, (4 * (a1 / 100)))), (5, (0, y32)), (6, (0, 0))]) rfl ?_
    exact <function vprf.<locals>.p at 0x7f663b5b60c0> _ 0 V187 ⟨by decide, by decide⟩ hV189 hF190 e191 e192 e193 e194 e195 e196 e197 e198 hp202 (by (have e : V187 90 44 = 0 := e199); rw [e]; omega) (by (have e : V187 90 45 = 0 := e200); rw [e]; omega) (by (have e : V187 90 46 = 0 := e201); rw [e]; omega) (fun h => absurd h (by omega)) (fun h => absurd h (by omega)) rfl
set_option maxHeartbeats 4000000 in
set_option maxRecDepth 100000 in
theorem B_X12_worksAnswer (a1 : Int) (h0 : 0 ≤ a1 ∧ a1 ≤ 59) : pm_K 3 yX12_worksAnswer cX12_worksAnswer 2 none (fun av V => av = [(3, 90), (0, a1)] ∧ pm_oq pm_qB V ∧ (a1 < V 90 25) ∧ pm_h1 V ∧ pm_h3 V) (fun _ V r V' => r = none ∧ pm_oq pm_qB V' ∧ pm_fs [110, 111] [42, 43, 44, 45, 46, 47, 48, 49] V V' ∧ (1 ≤ V' 90 42 ∧ V' 90 42 ≤ 171) ∧ (1 ≤ V' 90 43 ∧ V' 90 43 ≤ 171) ∧ pm_w1 V') := by
  refine pm_MT.of (by decide) ⟨Nat.le_refl _, by decide⟩ (fun av V h => by rw [h.1]; exact (by decide : pm_words [(3, 0), (0, 0)] ≤ 2)) ?_
  rintro X av V0 hC - hR ⟨rfl, hV0, hmp0, hn_pm_h1, hn_pm_h3⟩
  change pm_J X 0 [(0, (3, 90)), (1, (0, a1))] [] 118 V0
  have hh3 := hn_pm_h3 a1 (by omega) (by omega)
  refine pm_aload_n hC 0 (by decide) dX12_worksAnswer_0 rfl ?_
  refine pm_aload_n hC 0 (by decide) dX12_worksAnswer_1 rfl ?_
  have e1 : V0 90 26 = 101 := hV0.one 90 26 (by decide) (by decide) rfl
  refine pm_getf (v := 101) hC 90 fl_X12_43 rfl rfl (by decide) rfl e1 dX12_worksAnswer_2 ?_
  refine pm_iconst (v := 5) hC dX12_worksAnswer_5 ?_
  refine pm_iload_n hC 1 dX12_worksAnswer_6 rfl ?_
  refine pm_imul hC dX12_worksAnswer_7 ?_
  obtain ⟨y2, e3⟩ : ∃ y, V0 101 ((5 * a1) : Int).toNat = y := ⟨_, rfl⟩
  have b4 := hV0.get1 101 ((5 * a1) : Int).toNat (lo := 0) (hi := 999) (by decide) (show _ < 300 by omega) ((pm_qe_r (tb := pm_qB) (k := 101) (i := ((5 * a1) : Int).toNat) (m := 5) (r := 0) (l := [(0, 999, 1), (0, 99, 0), (-99, 99, 0), (0, 8, 0), (0, 1, 0)]) rfl rfl (by omega)).trans rfl)
  rw [e3] at b4
  refine pm_iaload (len := 300) (v := y2) hC 101 rfl rfl (by decide) ⟨by omega, by omega⟩ (by decide) e3 dX12_worksAnswer_8 ?_
  refine pm_aload_n hC 0 (by decide) dX12_worksAnswer_9 rfl ?_
  refine pm_getf (v := 101) hC 90 fl_X12_43 rfl rfl (by decide) rfl e1 dX12_worksAnswer_10 ?_
  refine pm_iconst (v := 5) hC dX12_worksAnswer_13 ?_
  refine pm_iload_n hC 1 dX12_worksAnswer_14 rfl ?_
  refine pm_imul hC dX12_worksAnswer_15 ?_
  refine pm_iconst (v := 1) hC dX12_worksAnswer_16 ?_
  refine pm_iadd hC dX12_worksAnswer_17 ?_
  obtain ⟨y5, e6⟩ : ∃ y, V0 101 (((5 * a1) + 1) : Int).toNat = y := ⟨_, rfl⟩
  have b7 := hV0.get 101 (((5 * a1) + 1) : Int).toNat (lo := 0) (hi := 99) (t := 0) (by decide) (show _ < 300 by omega) ((pm_qe_r (tb := pm_qB) (k := 101) (i := (((5 * a1) + 1) : Int).toNat) (m := 5) (r := 1) (l := [(0, 999, 1), (0, 99, 0), (-99, 99, 0), (0, 8, 0), (0, 1, 0)]) rfl rfl (by omega)).trans rfl)
  rw [e6] at b7
  refine pm_iaload (len := 300) (v := y5) hC 101 rfl rfl (by decide) ⟨by omega, by omega⟩ (by decide) e6 dX12_worksAnswer_18 ?_
  refine pm_aload_n hC 0 (by decide) dX12_worksAnswer_19 rfl ?_
  refine pm_getf (v := 101) hC 90 fl_X12_43 rfl rfl (by decide) rfl e1 dX12_worksAnswer_20 ?_
  refine pm_iconst (v := 5) hC dX12_worksAnswer_23 ?_
  refine pm_iload_n hC 1 dX12_worksAnswer_24 rfl ?_
  refine pm_imul hC dX12_worksAnswer_25 ?_
  refine pm_iconst (v := 2) hC dX12_worksAnswer_26 ?_
  refine pm_iadd hC dX12_worksAnswer_27 ?_
  obtain ⟨y8, e9⟩ : ∃ y, V0 101 (((5 * a1) + 2) : Int).toNat = y := ⟨_, rfl⟩
  have b10 := hV0.get 101 (((5 * a1) + 2) : Int).toNat (lo := (-99)) (hi := 99) (t := 0) (by decide) (show _ < 300 by omega) ((pm_qe_r (tb := pm_qB) (k := 101) (i := (((5 * a1) + 2) : Int).toNat) (m := 5) (r := 2) (l := [(0, 999, 1), (0, 99, 0), (-99, 99, 0), (0, 8, 0), (0, 1, 0)]) rfl rfl (by omega)).trans rfl)
  rw [e9] at b10
  refine pm_iaload (len := 300) (v := y8) hC 101 rfl rfl (by decide) ⟨by omega, by omega⟩ (by decide) e9 dX12_worksAnswer_28 ?_
  refine pm_callV (ci := 12) (as := [(0, y2), (0, y5), (0, y8)]) (st := []) hC 90 (B_X12_works y2 y5 y8 ⟨by omega, by omega⟩ ⟨by omega, by omega⟩ ⟨by omega, by omega⟩ (by omega)) lm_X12_376 li_X12_works (by decide) (by decide) rfl rfl rfl (by decide) rfl rfl (Nat.le_of_ble_eq_true rfl) ⟨Nat.le_refl _, Or.inl rfl⟩ dX12_worksAnswer_29 ⟨rfl, hV0, (show a1 % 10 < V0 90 16 by omega), (show a1 / 10 % 10 < V0 90 16 by omega), hn_pm_h1⟩ (fun r11 V12 hp13 => ?_)
  obtain ⟨rfl, hV14, hF15, hq16, hq17, hg18⟩ := hp13
  change pm_J X 32 [(0, (3, 90)), (1, (0, a1))] [] 118 V12
  have hF19 := pm_fs.tr (pm_fs.rf (cs := [110, 111]) (fs := [42, 43, 44, 45, 46, 47, 48, 49]) (V := V0)) hF15 (by decide) (by decide)
  have e20 : V12 90 26 = 101 := by rw [hF15.2 26 (by decide)]; exact e1
  have hp21 : pm_h1 V12 := (pm_h1.fr hn_pm_h1 (hF15.2 16 (by decide)) (hF15.1 97 (by decide) (by decide)))
  have hp22 : pm_h3 V12 := (pm_h3.fr hn_pm_h3 (hF15.2 16 (by decide)) (hF15.2 25 (by decide)) (hF15.1 101 (by decide) (by decide)))
  obtain ⟨z23, ez24⟩ : ∃ z, V12 90 42 = z := ⟨_, rfl⟩
  rw [ez24] at hq16
  obtain ⟨z25, ez26⟩ : ∃ z, V12 90 43 = z := ⟨_, rfl⟩
  rw [ez26] at hq17
  have q27 : 1 ≤ V12 90 42 ∧ V12 90 42 ≤ 171 := by (have e : V12 90 42 = z23 := ez24); rw [e]; exact ⟨by omega, by omega⟩
  have q28 : 1 ≤ V12 90 43 ∧ V12 90 43 ≤ 171 := by (have e : V12 90 43 = z25 := ez26); rw [e]; exact ⟨by omega, by omega⟩
  exact pm_vret hC hR ⟨rfl, hV14, hF19, q27, q28, hg18⟩ dX12_worksAnswer_32
