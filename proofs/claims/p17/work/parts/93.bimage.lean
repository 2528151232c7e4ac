noncomputable def F_X12_image (a1 : Int) (V0 : pm_M) : Int × pm_M := pf_let (V0 90 25) fun y1 => pf_call (F_X12_in a1 0 2 V0) fun y9 _ => (if ¬ (y9 = 0) then (pf_let (V0 90 23) fun y15 => pf_let ((pm_up (pm_up (pm_up V0 102 (a1 : Int).toNat 1) 103 (a1 : Int).toNat y15) 105 (a1 : Int).toNat y1)) fun V19 => pf_val ((0 : Int), V0) (fun (q : Int × pm_M) => match q with | (x30, V32) => ((if 40 ≤ x30 then (pf_val (.inr ((0 : Int), V0)) (fun (q : Int × pm_M) => match q with | (x54, V56) => ((if 300 ≤ x54 then ((.inr (.inr (1, V56)))) else (pf_let (V56 101 (x54 : Int).toNat) fun y81 => pf_let (x54 + 1) fun x85 => (.inl (x85, (pm_up V56 106 (((300 * a1) + x54) : Int).toNat y81))))))) (0, V32)) else (pf_let (V32 100 (x30 : Int).toNat) fun y89 => pf_let (x30 + 1) fun x93 => (.inl (x93, (pm_up V32 104 (((40 * a1) + x30) : Int).toNat y89))))))) (0, V19)) else ((0, V0)))
theorem F_X12_image_eq (a1 : Int) (V0 : pm_M) : F_X12_image a1 V0 = pf_let (V0 90 25) fun y1 => pf_call (F_X12_in a1 0 2 V0) fun y9 _ => (if ¬ (y9 = 0) then (pf_let (V0 90 23) fun y15 => pf_let ((pm_up (pm_up (pm_up V0 102 (a1 : Int).toNat 1) 103 (a1 : Int).toNat y15) 105 (a1 : Int).toNat y1)) fun V19 => pf_val ((0 : Int), V0) (fun (q : Int × pm_M) => match q with | (x30, V32) => ((if 40 ≤ x30 then (pf_val (.inr ((0 : Int), V0)) (fun (q : Int × pm_M) => match q with | (x54, V56) => ((if 300 ≤ x54 then ((.inr (.inr (1, V56)))) else (pf_let (V56 101 (x54 : Int).toNat) fun y81 => pf_let (x54 + 1) fun x85 => (.inl (x85, (pm_up V56 106 (((300 * a1) + x54) : Int).toNat y81))))))) (0, V32)) else (pf_let (V32 100 (x30 : Int).toNat) fun y89 => pf_let (x30 + 1) fun x93 => (.inl (x93, (pm_up V32 104 (((40 * a1) + x30) : Int).toNat y89))))))) (0, V19)) else ((0, V0))) := rfl
noncomputable def F_X12_back (a1 : Int) (V0 : pm_M) : Int × pm_M := pf_call (F_X12_in a1 0 2 V0) fun y4 _ => (if y4 = 0 then ((0, V0)) else (pf_let (V0 102 (a1 : Int).toNat) fun y9 => (if ¬ (y9 = 0) then (pf_let (V0 103 (a1 : Int).toNat) fun y14 => pf_let (V0 105 (a1 : Int).toNat) fun y18 => pf_let ((pm_up (pm_up V0 90 23 y14) 90 25 y18)) fun V21 => pf_val ((0 : Int), V0) (fun (q : Int × pm_M) => match q with | (x31, V33) => ((if 40 ≤ x31 then (pf_val (.inr ((0 : Int), V0)) (fun (q : Int × pm_M) => match q with | (x50, V52) => ((if 300 ≤ x50 then ((.inr (.inr (1, V52)))) else (pf_let (V52 106 (((300 * a1) + x50) : Int).toNat) fun y72 => pf_let (x50 + 1) fun x76 => (.inl (x76, (pm_up V52 101 (x50 : Int).toNat y72))))))) (0, V33)) else (pf_let (V33 104 (((40 * a1) + x31) : Int).toNat) fun y80 => pf_let (x31 + 1) fun x84 => (.inl (x84, (pm_up V33 100 (x31 : Int).toNat y80))))))) (0, V21)) else ((0, V0)))))
theorem F_X12_back_eq (a1 : Int) (V0 : pm_M) : F_X12_back a1 V0 = pf_call (F_X12_in a1 0 2 V0) fun y4 _ => (if y4 = 0 then ((0, V0)) else (pf_let (V0 102 (a1 : Int).toNat) fun y9 => (if ¬ (y9 = 0) then (pf_let (V0 103 (a1 : Int).toNat) fun y14 => pf_let (V0 105 (a1 : Int).toNat) fun y18 => pf_let ((pm_up (pm_up V0 90 23 y14) 90 25 y18)) fun V21 => pf_val ((0 : Int), V0) (fun (q : Int × pm_M) => match q with | (x31, V33) => ((if 40 ≤ x31 then (pf_val (.inr ((0 : Int), V0)) (fun (q : Int × pm_M) => match q with | (x50, V52) => ((if 300 ≤ x50 then ((.inr (.inr (1, V52)))) else (pf_let (V52 106 (((300 * a1) + x50) : Int).toNat) fun y72 => pf_let (x50 + 1) fun x76 => (.inl (x76, (pm_up V52 101 (x50 : Int).toNat y72))))))) (0, V33)) else (pf_let (V33 104 (((40 * a1) + x31) : Int).toNat) fun y80 => pf_let (x31 + 1) fun x84 => (.inl (x84, (pm_up V33 100 (x31 : Int).toNat y80))))))) (0, V21)) else ((0, V0))))) := rfl
set_option maxHeartbeats 4000000 in
set_option maxRecDepth 100000 in
theorem fB_X12_image (a1 : Int) (h0 : (-2147483648) ≤ a1 ∧ a1 ≤ 2147483647) : pm_K 2 yX12_image cX12_image 3 (some .boolean) (fun av V => av = [(3, 90), (0, a1)] ∧ pm_oq pm_qB V ∧ pm_h3 V ∧ pm_h4 V) (fun _ V r V' => ∃ y, r = some (0, y) ∧ (0 ≤ y ∧ y ≤ 1) ∧ pm_oq pm_qB V' ∧ pm_fs [102, 103, 104, 105, 106] [] V V' ∧ pm_h4 V' ∧ F_X12_image a1 V = (y, V')) := by
  refine pm_MT.of (by decide) ⟨Nat.le_refl _, by decide⟩ (fun av V h => by rw [h.1]; exact (by decide : pm_words [(3, 0), (0, 0)] ≤ 3)) ?_
  rintro X av V0 hC - hR ⟨rfl, hV0, hn_pm_h3, hn_pm_h4⟩
  change pm_J X 0 [(0, (3, 90)), (1, (0, a1))] [] 118 V0
  have hT := F_X12_image_eq a1 V0
  obtain ⟨y1, e2⟩ : ∃ y, V0 90 25 = y := ⟨_, rfl⟩
  have b3 := hV0.get 90 25 (lo := 0) (hi := 60) (by decide) (by decide) rfl
  rw [e2] at b3
  replace hT := hT.trans (pf_let_eq e2)
  refine pm_aload_n hC 0 (by decide) dX12_image_0 rfl ?_
  have e4 : V0 90 15 = 1 := hV0.one 90 15 (by decide) (by decide) rfl
  refine pm_getf (v := 1) hC 90 fl_X12_216 rfl rfl (by decide) rfl e4 dX12_image_1 ?_
  refine pm_if_eq (tgt := 16) hC ⟨by decide, by decide⟩ dX12_image_4 (by decide) (fun c5 => ?_) (fun c5 => ?_)
  · skip
    exfalso; omega
  · skip
    refine pm_iload_n hC 1 dX12_image_7 rfl ?_
    refine pm_iconst (v := 0) hC dX12_image_8 ?_
    refine pm_iconst (v := 2) hC dX12_image_9 ?_
    refine pm_callS (as := [(0, a1), (0, 0), (0, 2)]) (st := []) hC (fB_X12_in a1 0 2 ⟨by omega, by omega⟩ ⟨by decide, by decide⟩ ⟨by decide, by decide⟩) lm_X12_98 ls_X12_in (by decide) (by decide) rfl rfl (Nat.le_of_ble_eq_true rfl) ⟨Nat.le_refl _, Or.inl rfl⟩ dX12_image_10 ⟨rfl, hV0⟩ (fun r6 V7 hp8 => ?_)
    obtain ⟨y9, rfl, b10, rfl, hE11⟩ := hp8
    replace hT := hT.trans (pf_call_eq hE11)
    change pm_J X 13 [(0, (3, 90)), (1, (0, a1))] [(0, y9)] 118 V0
    refine pm_if_ne (tgt := 18) hC ⟨by omega, by omega⟩ dX12_image_13 (by decide) (fun c12 => ?_) (fun c12 => ?_)
    · skip
      replace hT := hT.trans (if_pos c12)
      refine pm_aload_n hC 0 (by decide) dX12_image_18 rfl ?_
      have e13 : V0 90 27 = 102 := hV0.one 90 27 (by decide) (by decide) rfl
      refine pm_getf (v := 102) hC 90 fl_X12_46 rfl rfl (by decide) rfl e13 dX12_image_19 ?_
      refine pm_iload_n hC 1 dX12_image_22 rfl ?_
      refine pm_iconst (v := 1) hC dX12_image_23 ?_
      refine pm_zastore (len := 3) hC 102 rfl rfl (by decide) ⟨by omega, by omega⟩ (by decide) (by omega) dX12_image_24 ?_
      refine pm_aload_n hC 0 (by decide) dX12_image_25 rfl ?_
      have e14 : V0 90 28 = 103 := hV0.one 90 28 (by decide) (by decide) rfl
      refine pm_getf (v := 103) hC 90 fl_X12_49 rfl rfl (by decide) rfl e14 dX12_image_26 ?_
      refine pm_iload_n hC 1 dX12_image_29 rfl ?_
      refine pm_aload_n hC 0 (by decide) dX12_image_30 rfl ?_
      obtain ⟨y15, e16⟩ : ∃ y, V0 90 23 = y := ⟨_, rfl⟩
      have b17 := hV0.get 90 23 (lo := 0) (hi := 10) (by decide) (by decide) rfl
      rw [e16] at b17
      replace hT := hT.trans (pf_let_eq e16)
      refine pm_getf (v := y15) hC 90 fl_X12_232 rfl rfl (by decide) rfl e16 dX12_image_31 ?_
      refine pm_iastore (len := 3) hC 103 rfl rfl (by decide) ⟨by omega, by omega⟩ (by decide) dX12_image_34 ?_
      refine pm_aload_n hC 0 (by decide) dX12_image_35 rfl ?_
      have e18 : V0 90 30 = 105 := hV0.one 90 30 (by decide) (by decide) rfl
      refine pm_getf (v := 105) hC 90 fl_X12_55 rfl rfl (by decide) rfl e18 dX12_image_36 ?_
      refine pm_iload_n hC 1 dX12_image_39 rfl ?_
      refine pm_aload_n hC 0 (by decide) dX12_image_40 rfl ?_
      refine pm_getf (v := y1) hC 90 fl_X12_235 rfl rfl (by decide) rfl e2 dX12_image_41 ?_
      refine pm_iastore (len := 3) hC 105 rfl rfl (by decide) ⟨by omega, by omega⟩ (by decide) dX12_image_44 ?_
      refine pm_iconst (v := 0) hC dX12_image_45 ?_
      refine pm_istore_n (lv' := [(2, (0, 0)), (0, (3, 90)), (1, (0, a1))]) hC dX12_image_46 (by decide) rfl ?_
      have hV21 := (((hV0.put 102 (a1 : Int).toNat (x := 1) (lo := 0) (hi := 1) rfl ⟨by decide, by decide⟩).put 103 (a1 : Int).toNat (x := y15) (lo := 0) (hi := 10) rfl ⟨by omega, by omega⟩).put 105 (a1 : Int).toNat (x := y1) (lo := 0) (hi := 60) rfl ⟨by omega, by omega⟩)
      have hF22 := ((((pm_fs.rf (cs := [102, 103, 104, 105, 106]) (fs := []) (V := V0)).up 102 (a1 : Int).toNat 1 (by decide) rfl).up 103 (a1 : Int).toNat y15 (by decide) rfl).up 105 (a1 : Int).toNat y1 (by decide) rfl)
      obtain ⟨V19, hv20⟩ : ∃ V, V = (pm_up (pm_up (pm_up V0 102 (a1 : Int).toNat 1) 103 (a1 : Int).toNat y15) 105 (a1 : Int).toNat y1) := ⟨_, rfl⟩
      rw [← hv20] at hV21 hF22
      rw [← hv20]
      replace hT := hT.trans (pf_let_eq hv20.symm)
      have e23 : V19 90 25 = y1 := by rw [hv20]; exact e2
      have e24 : V19 90 15 = 1 := by rw [hv20]; exact e4
      have e25 : V19 90 27 = 102 := by rw [hv20]; exact e13
      have e26 : V19 90 28 = 103 := by rw [hv20]; exact e14
      have e27 : V19 90 23 = y15 := by rw [hv20]; exact e16
      have e28 : V19 90 30 = 105 := by rw [hv20]; exact e18
      have hp29 : pm_h3 V19 := by rw [hv20]; exact (pm_h3.fr hn_pm_h3 rfl rfl rfl)
      obtain ⟨B46, hB47, hT⟩ := pf_loop hT
      have L49 : ∀ (N51 : Nat) (x30 : Int) (V32 : pm_M), (0 ≤ x30 ∧ x30 ≤ 60) → pm_oq pm_qB V32 → pm_fs [102, 103, 104, 105, 106] [] V0 V32 → V32 90 25 = y1 → V32 90 15 = 1 → V32 90 27 = 102 → V32 90 28 = 103 → V32 90 23 = y15 → V32 90 30 = 105 → pm_h3 V32 → (∀ i : Nat, i ≠ (a1 : Int).toNat → V32 102 i = V0 102 i) → (∀ i : Nat, i ≠ (a1 : Int).toNat → V32 105 i = V0 105 i) → (V32 105 (a1 : Int).toNat = y1) → (V32 106 = V0 106) → F_X12_image a1 V0 = pf_val ((0 : Int), V0) B46 (x30, V32) → (Int.toNat (60 - x30)) = N51 → pm_J X 47 [(0, (3, 90)), (1, (0, a1)), (2, (0, x30))] [] 118 V32 := by
        intro N51
        induction N51 using Nat.strongRecOn with
        | _ N51 ih52 =>
        intro x30 V32 b31 hV33 hF34 e35 e36 e37 e38 e39 e40 hp41 hx42 hx43 hx44 hx45 hT hm50
        have hb48 := congrFun hB47 (x30, V32)
        refine pm_iload_n hC 2 dX12_image_47 rfl ?_
        refine pm_bipush (v := 40) hC dX12_image_48 (by decide) ?_
        refine pm_icmp_ge (tgt := 76) hC ⟨by omega, by omega⟩ ⟨by decide, by decide⟩ dX12_image_50 (by decide) (fun c53 => ?_) (fun c53 => ?_)
        · skip
          replace hb48 := hb48.trans (if_pos c53)
          refine pm_iconst (v := 0) hC dX12_image_76 ?_
          refine pm_istore_n (lv' := [(2, (0, 0)), (0, (3, 90)), (1, (0, a1))]) hC dX12_image_77 (by decide) rfl ?_
          obtain ⟨B71, hB72, hb48⟩ := pf_loop hb48
          have L74 : ∀ (N76 : Nat) (x54 : Int) (V56 : pm_M), (0 ≤ x54 ∧ x54 ≤ 499) → pm_oq pm_qB V56 → pm_fs [102, 103, 104, 105, 106] [] V0 V56 → V56 90 25 = y1 → V56 90 15 = 1 → V56 90 27 = 102 → V56 90 28 = 103 → V56 90 23 = y15 → V56 90 30 = 105 → pm_h3 V56 → (∀ i : Nat, i ≠ (a1 : Int).toNat → V56 102 i = V0 102 i) → (∀ i : Nat, i ≠ (a1 : Int).toNat → V56 105 i = V0 105 i) → (V56 105 (a1 : Int).toNat = y1) → (∀ q : Nat, (q : Int) < x54 → V56 106 (300 * a1 + (q : Int)).toNat = V0 101 q) → (∀ q : Nat, (q : Int) < 300 * a1 ∨ 300 * a1 + 300 ≤ (q : Int) → V56 106 q = V0 106 q) → B46 (x30, V32) = pf_val (.inr ((0 : Int), V0)) B71 (x54, V56) → (Int.toNat (499 - x54)) = N76 → pm_J X 78 [(0, (3, 90)), (1, (0, a1)), (2, (0, x54))] [] 118 V56 := by
            intro N76
            induction N76 using Nat.strongRecOn with
            | _ N76 ih77 =>
            intro x54 V56 b55 hV57 hF58 e59 e60 e61 e62 e63 e64 hp65 hx66 hx67 hx68 hx69 hx70 hb48 hm75
            have hb73 := congrFun hB72 (x54, V56)
            refine pm_iload_n hC 2 dX12_image_78 rfl ?_
            refine pm_sipush (v := 300) hC dX12_image_79 (by decide) ?_
            refine pm_icmp_ge (tgt := 109) hC ⟨by omega, by omega⟩ ⟨by decide, by decide⟩ dX12_image_82 (by decide) (fun c78 => ?_) (fun c78 => ?_)
            · skip
              replace hb73 := hb73.trans (if_pos c78)
              refine pm_iconst (v := 1) hC dX12_image_109 ?_
              have hb48 := hb48.trans (pf_val_inr hb73)
              have hT := hT.trans (pf_val_inr hb48)
              exact pm_iret hC hR (pm_narZ (by omega)) ⟨1, rfl, ⟨by omega, by omega⟩, hV57, hF58, (pm_h4.image hn_pm_h3 hn_pm_h4 (by omega) (by rw [e2]; omega) (hF58.2 16 (by decide)) hx66 hx67 (hx68.trans e2.symm) (fun q h => hx69 q (by omega)) hx70 (fun m h0 h2 => (hV0.get 105 m.toNat (lo := 0) (hi := 60) (t := 0) (by decide) (show _ < 3 by omega) rfl).2)), hT⟩ dX12_image_110
            · skip
              replace hb73 := hb73.trans (if_neg (Int.not_le.mpr c78))
              refine pm_aload_n hC 0 (by decide) dX12_image_85 rfl ?_
              have e79 : V56 90 31 = 106 := hV57.one 90 31 (by decide) (by decide) rfl
              refine pm_getf (v := 106) hC 90 fl_X12_58 rfl rfl (by decide) rfl e79 dX12_image_86 ?_
              refine pm_sipush (v := 300) hC dX12_image_89 (by decide) ?_
              refine pm_iload_n hC 1 dX12_image_92 rfl ?_
              refine pm_imul hC dX12_image_93 ?_
              refine pm_iload_n hC 2 dX12_image_94 rfl ?_
              refine pm_iadd hC dX12_image_95 ?_
              refine pm_aload_n hC 0 (by decide) dX12_image_96 rfl ?_
              have e80 : V56 90 26 = 101 := hV57.one 90 26 (by decide) (by decide) rfl
              refine pm_getf (v := 101) hC 90 fl_X12_43 rfl rfl (by decide) rfl e80 dX12_image_97 ?_
              refine pm_iload_n hC 2 dX12_image_100 rfl ?_
              obtain ⟨y81, e82⟩ : ∃ y, V56 101 (x54 : Int).toNat = y := ⟨_, rfl⟩
              replace hb73 := hb73.trans (pf_let_eq e82)
              have be84 := hV57 101 (by decide) (by decide) (x54 : Int).toNat (show _ < 300 by omega)
              rw [e82] at be84
              have b83 : (-99) ≤ y81 ∧ y81 ≤ 999 := pm_qhull be84 rfl rfl (by decide)
              refine pm_iaload (len := 300) (v := y81) hC 101 rfl rfl (by decide) ⟨by omega, by omega⟩ (by decide) e82 dX12_image_101 ?_
              refine pm_iastore (len := 900) hC 106 rfl rfl (by decide) ⟨by omega, by omega⟩ (by decide) dX12_image_102 ?_
              obtain ⟨x85, ei86⟩ : ∃ y : Int, x54 + 1 = y := ⟨_, rfl⟩
              replace hb73 := hb73.trans (pf_let_eq ei86)
              refine pm_iinc (y := x85) (lv' := [(2, (0, x85)), (0, (3, 90)), (1, (0, a1))]) hC 2 dX12_image_103 (by decide) rfl ei86 rfl ?_
              refine pm_goto (tgt := 78) hC dX12_image_106 (by decide) ?_
              refine pm_lvsub [1, 2, 0] (lv' := [(0, (3, 90)), (1, (0, a1)), (2, (0, x85))]) rfl ?_
              exact ih77 _ (by omega) x85 (pm_up V56 106 (((300 * a1) + x54) : Int).toNat y81) ⟨by omega, by omega⟩ (hV57.putel 106 (((300 * a1) + x54) : Int).toNat (x := y81) (by rw [pm_qe_c (k := 106) (k' := 101) (i' := (x54 : Int).toNat) (m := 5) rfl rfl rfl (by omega)]; exact be84)) (hF58.up 106 (((300 * a1) + x54) : Int).toNat y81 (by decide) rfl) e59 e60 e61 e62 e63 e64 (pm_h3.fr hp65 rfl rfl rfl) (fun i hi => hx66 i hi) (fun i hi => hx67 i hi) hx68 (fun q h => by (by_cases hq : (q : Int) = x54); (show pm_up V56 106 (((300 * a1) + x54) : Int).toNat y81 106 (300 * a1 + (q : Int)).toNat = V0 101 q; rw [show (300 * a1 + (q : Int)).toNat = (((300 * a1) + x54) : Int).toNat by omega, pm_up_s, ← e82, hF58.1 101 (by decide) (by decide), show (x54 : Int).toNat = q by omega]); (show pm_up V56 106 (((300 * a1) + x54) : Int).toNat y81 106 (300 * a1 + (q : Int)).toNat = V0 101 q; rw [pm_up_i (by omega)]; exact hx69 q (by omega))) (fun q h => by show pm_up V56 106 (((300 * a1) + x54) : Int).toNat y81 106 q = V0 106 q; rw [pm_up_i (by omega)]; exact hx70 q h) (hb48.trans (pf_val_inl hb73)) rfl
          refine pm_lvsub [1, 2, 0] (lv' := [(0, (3, 90)), (1, (0, a1)), (2, (0, 0))]) rfl ?_
          exact L74 _ 0 V32 ⟨by decide, by decide⟩ hV33 hF34 e35 e36 e37 e38 e39 e40 hp41 hx42 hx43 hx44 (fun q h => absurd h (by omega)) (fun q _ => by rw [hx45]) hb48 rfl
        · skip
          replace hb48 := hb48.trans (if_neg (Int.not_le.mpr c53))
          refine pm_aload_n hC 0 (by decide) dX12_image_53 rfl ?_
          have e87 : V32 90 29 = 104 := hV33.one 90 29 (by decide) (by decide) rfl
          refine pm_getf (v := 104) hC 90 fl_X12_52 rfl rfl (by decide) rfl e87 dX12_image_54 ?_
          refine pm_bipush (v := 40) hC dX12_image_57 (by decide) ?_
          refine pm_iload_n hC 1 dX12_image_59 rfl ?_
          refine pm_imul hC dX12_image_60 ?_
          refine pm_iload_n hC 2 dX12_image_61 rfl ?_
          refine pm_iadd hC dX12_image_62 ?_
          refine pm_aload_n hC 0 (by decide) dX12_image_63 rfl ?_
          have e88 : V32 90 24 = 100 := hV33.one 90 24 (by decide) (by decide) rfl
          refine pm_getf (v := 100) hC 90 fl_X12_40 rfl rfl (by decide) rfl e88 dX12_image_64 ?_
          refine pm_iload_n hC 2 dX12_image_67 rfl ?_
          obtain ⟨y89, e90⟩ : ∃ y, V32 100 (x30 : Int).toNat = y := ⟨_, rfl⟩
          replace hb48 := hb48.trans (pf_let_eq e90)
          have be92 := hV33 100 (by decide) (by decide) (x30 : Int).toNat (show _ < 40 by omega)
          rw [e90] at be92
          have b91 : (-30) ≤ y89 ∧ y89 ≤ 30 := pm_qhull be92 rfl rfl (by decide)
          refine pm_iaload (len := 40) (v := y89) hC 100 rfl rfl (by decide) ⟨by omega, by omega⟩ (by decide) e90 dX12_image_68 ?_
          refine pm_iastore (len := 120) hC 104 rfl rfl (by decide) ⟨by omega, by omega⟩ (by decide) dX12_image_69 ?_
          obtain ⟨x93, ei94⟩ : ∃ y : Int, x30 + 1 = y := ⟨_, rfl⟩
          replace hb48 := hb48.trans (pf_let_eq ei94)
          refine pm_iinc (y := x93) (lv' := [(2, (0, x93)), (0, (3, 90)), (1, (0, a1))]) hC 2 dX12_image_70 (by decide) rfl ei94 rfl ?_
          refine pm_goto (tgt := 47) hC dX12_image_73 (by decide) ?_
          refine pm_lvsub [1, 2, 0] (lv' := [(0, (3, 90)), (1, (0, a1)), (2, (0, x93))]) rfl ?_
          exact ih52 _ (by omega) x93 (pm_up V32 104 (((40 * a1) + x30) : Int).toNat y89) ⟨by omega, by omega⟩ (hV33.putel 104 (((40 * a1) + x30) : Int).toNat (x := y89) (by rw [pm_qe_c (k := 104) (k' := 100) (i' := (x30 : Int).toNat) (m := 4) rfl rfl rfl (by omega)]; exact be92)) (hF34.up 104 (((40 * a1) + x30) : Int).toNat y89 (by decide) rfl) e35 e36 e37 e38 e39 e40 (pm_h3.fr hp41 rfl rfl rfl) (fun i hi => hx42 i hi) (fun i hi => hx43 i hi) hx44 (by rw [pm_up_k (by decide)]; exact hx45) (hT.trans (pf_val_inl hb48)) rfl
      refine pm_lvsub [1, 2, 0] (lv' := [(0, (3, 90)), (1, (0, a1)), (2, (0, 0))]) rfl ?_
      exact L49 _ 0 V19 ⟨by decide, by decide⟩ hV21 hF22 e23 e24 e25 e26 e27 e28 hp29 (fun i hi => by rw [hv20]; exact (pm_up_i hi : pm_up V0 102 (a1 : Int).toNat 1 102 i = V0 102 i)) (fun i hi => by rw [hv20, pm_up_i hi]; rfl) (by rw [hv20]; exact pm_up_s) (by rw [hv20, pm_up_k (by decide), pm_up_k (by decide), pm_up_k (by decide)]) hT rfl
    · skip
      replace hT := hT.trans (if_neg (fun q => q c12))
      refine pm_iconst (v := 0) hC dX12_image_16 ?_
      exact pm_iret hC hR (pm_narZ (by omega)) ⟨0, rfl, ⟨by omega, by omega⟩, hV0, (pm_fs.rf (cs := [102, 103, 104, 105, 106]) (fs := []) (V := V0)), hn_pm_h4, hT⟩ dX12_image_17
set_option maxHeartbeats 4000000 in
set_option maxRecDepth 100000 in
theorem fB_X12_back (a1 : Int) (h0 : (-2147483648) ≤ a1 ∧ a1 ≤ 2147483647) : pm_K 2 yX12_back cX12_back 3 (some .boolean) (fun av V => av = [(3, 90), (0, a1)] ∧ pm_oq pm_qB V ∧ pm_h3 V ∧ pm_h4 V) (fun _ V r V' => ∃ y, r = some (0, y) ∧ (0 ≤ y ∧ y ≤ 1) ∧ pm_oq pm_qB V' ∧ pm_fs [100, 101] [23, 25] V V' ∧ pm_h3 V' ∧ F_X12_back a1 V = (y, V')) := by
  refine pm_MT.of (by decide) ⟨Nat.le_refl _, by decide⟩ (fun av V h => by rw [h.1]; exact (by decide : pm_words [(3, 0), (0, 0)] ≤ 3)) ?_
  rintro X av V0 hC - hR ⟨rfl, hV0, hn_pm_h3, hn_pm_h4⟩
  change pm_J X 0 [(0, (3, 90)), (1, (0, a1))] [] 118 V0
  have hT := F_X12_back_eq a1 V0
  refine pm_iload_n hC 1 dX12_back_0 rfl ?_
  refine pm_iconst (v := 0) hC dX12_back_1 ?_
  refine pm_iconst (v := 2) hC dX12_back_2 ?_
  refine pm_callS (as := [(0, a1), (0, 0), (0, 2)]) (st := []) hC (fB_X12_in a1 0 2 ⟨by omega, by omega⟩ ⟨by decide, by decide⟩ ⟨by decide, by decide⟩) lm_X12_98 ls_X12_in (by decide) (by decide) rfl rfl (Nat.le_of_ble_eq_true rfl) ⟨Nat.le_refl _, Or.inl rfl⟩ dX12_back_3 ⟨rfl, hV0⟩ (fun r1 V2 hp3 => ?_)
  obtain ⟨y4, rfl, b5, rfl, hE6⟩ := hp3
  replace hT := hT.trans (pf_call_eq hE6)
  change pm_J X 6 [(0, (3, 90)), (1, (0, a1))] [(0, y4)] 118 V0
  refine pm_if_eq (tgt := 18) hC ⟨by omega, by omega⟩ dX12_back_6 (by decide) (fun c7 => ?_) (fun c7 => ?_)
  · skip
    replace hT := hT.trans (if_pos c7)
    refine pm_iconst (v := 0) hC dX12_back_18 ?_
    exact pm_iret hC hR (pm_narZ (by omega)) ⟨0, rfl, ⟨by omega, by omega⟩, hV0, (pm_fs.rf (cs := [100, 101]) (fs := [23, 25]) (V := V0)), hn_pm_h3, hT⟩ dX12_back_19
  · skip
    replace hT := hT.trans (if_neg c7)
    refine pm_aload_n hC 0 (by decide) dX12_back_9 rfl ?_
    have e8 : V0 90 27 = 102 := hV0.one 90 27 (by decide) (by decide) rfl
    refine pm_getf (v := 102) hC 90 fl_X12_46 rfl rfl (by decide) rfl e8 dX12_back_10 ?_
    refine pm_iload_n hC 1 dX12_back_13 rfl ?_
    obtain ⟨y9, e10⟩ : ∃ y, V0 102 (a1 : Int).toNat = y := ⟨_, rfl⟩
    replace hT := hT.trans (pf_let_eq e10)
    have b11 := hV0.get 102 (a1 : Int).toNat (lo := 0) (hi := 1) (t := 0) (by decide) (show _ < 3 by omega) rfl
    rw [e10] at b11
    refine pm_zaload (len := 3) (v := y9) hC 102 rfl rfl (by decide) ⟨by omega, by omega⟩ (by decide) e10 dX12_back_14 ?_
    refine pm_if_ne (tgt := 20) hC ⟨by omega, by omega⟩ dX12_back_15 (by decide) (fun c12 => ?_) (fun c12 => ?_)
    · skip
      replace hT := hT.trans (if_pos c12)
      refine pm_aload_n hC 0 (by decide) dX12_back_20 rfl ?_
      refine pm_aload_n hC 0 (by decide) dX12_back_21 rfl ?_
      have e13 : V0 90 28 = 103 := hV0.one 90 28 (by decide) (by decide) rfl
      refine pm_getf (v := 103) hC 90 fl_X12_49 rfl rfl (by decide) rfl e13 dX12_back_22 ?_
      refine pm_iload_n hC 1 dX12_back_25 rfl ?_
      obtain ⟨y14, e15⟩ : ∃ y, V0 103 (a1 : Int).toNat = y := ⟨_, rfl⟩
      replace hT := hT.trans (pf_let_eq e15)
      have b16 := hV0.get 103 (a1 : Int).toNat (lo := 0) (hi := 10) (t := 0) (by decide) (show _ < 3 by omega) rfl
      rw [e15] at b16
      refine pm_iaload (len := 3) (v := y14) hC 103 rfl rfl (by decide) ⟨by omega, by omega⟩ (by decide) e15 dX12_back_26 ?_
      refine pm_putf hC 90 fl_X12_232 rfl rfl rfl (by decide) rfl trivial dX12_back_27 ?_
      refine pm_aload_n hC 0 (by decide) dX12_back_30 rfl ?_
      refine pm_aload_n hC 0 (by decide) dX12_back_31 rfl ?_
      have e17 : V0 90 30 = 105 := hV0.one 90 30 (by decide) (by decide) rfl
      refine pm_getf (v := 105) hC 90 fl_X12_55 rfl rfl (by decide) rfl e17 dX12_back_32 ?_
      refine pm_iload_n hC 1 dX12_back_35 rfl ?_
      obtain ⟨y18, e19⟩ : ∃ y, V0 105 (a1 : Int).toNat = y := ⟨_, rfl⟩
      replace hT := hT.trans (pf_let_eq e19)
      have b20 := hV0.get 105 (a1 : Int).toNat (lo := 0) (hi := 60) (t := 0) (by decide) (show _ < 3 by omega) rfl
      rw [e19] at b20
      refine pm_iaload (len := 3) (v := y18) hC 105 rfl rfl (by decide) ⟨by omega, by omega⟩ (by decide) e19 dX12_back_36 ?_
      refine pm_putf hC 90 fl_X12_235 rfl rfl rfl (by decide) rfl trivial dX12_back_37 ?_
      refine pm_iconst (v := 0) hC dX12_back_40 ?_
      refine pm_istore_n (lv' := [(2, (0, 0)), (0, (3, 90)), (1, (0, a1))]) hC dX12_back_41 (by decide) rfl ?_
      have hV23 := ((hV0.put 90 23 (x := y14) (lo := 0) (hi := 10) rfl ⟨by omega, by omega⟩).put 90 25 (x := y18) (lo := 0) (hi := 60) rfl ⟨by omega, by omega⟩)
      have hF24 := (((pm_fs.rf (cs := [100, 101]) (fs := [23, 25]) (V := V0)).upf 23 y14 rfl).upf 25 y18 rfl)
      obtain ⟨V21, hv22⟩ : ∃ V, V = (pm_up (pm_up V0 90 23 y14) 90 25 y18) := ⟨_, rfl⟩
      rw [← hv22] at hV23 hF24
      rw [← hv22]
      replace hT := hT.trans (pf_let_eq hv22.symm)
      have e25 : V21 90 27 = 102 := by rw [hv22]; exact e8
      have e26 : V21 90 28 = 103 := by rw [hv22]; exact e13
      have e27 : V21 90 30 = 105 := by rw [hv22]; exact e17
      have e28 : V21 90 23 = y14 := by rw [hv22]; rfl
      have e29 : V21 90 25 = y18 := by rw [hv22]; rfl
      have hp30 : pm_h4 V21 := by rw [hv22]; exact (pm_h4.fr hn_pm_h4 rfl rfl rfl rfl)
      obtain ⟨B42, hB43, hT⟩ := pf_loop hT
      have L45 : ∀ (N47 : Nat) (x31 : Int) (V33 : pm_M), (0 ≤ x31 ∧ x31 ≤ 60) → pm_oq pm_qB V33 → pm_fs [100, 101] [23, 25] V0 V33 → V33 90 27 = 102 → V33 90 28 = 103 → V33 90 30 = 105 → V33 90 23 = y14 → V33 90 25 = y18 → pm_h4 V33 → F_X12_back a1 V0 = pf_val ((0 : Int), V0) B42 (x31, V33) → (Int.toNat (60 - x31)) = N47 → pm_J X 42 [(0, (3, 90)), (1, (0, a1)), (2, (0, x31))] [] 118 V33 := by
        intro N47
        induction N47 using Nat.strongRecOn with
        | _ N47 ih48 =>
        intro x31 V33 b32 hV34 hF35 e36 e37 e38 e39 e40 hp41 hT hm46
        have hb44 := congrFun hB43 (x31, V33)
        refine pm_iload_n hC 2 dX12_back_42 rfl ?_
        refine pm_bipush (v := 40) hC dX12_back_43 (by decide) ?_
        refine pm_icmp_ge (tgt := 71) hC ⟨by omega, by omega⟩ ⟨by decide, by decide⟩ dX12_back_45 (by decide) (fun c49 => ?_) (fun c49 => ?_)
        · skip
          replace hb44 := hb44.trans (if_pos c49)
          refine pm_iconst (v := 0) hC dX12_back_71 ?_
          refine pm_istore_n (lv' := [(2, (0, 0)), (0, (3, 90)), (1, (0, a1))]) hC dX12_back_72 (by decide) rfl ?_
          obtain ⟨B62, hB63, hb44⟩ := pf_loop hb44
          have L65 : ∀ (N67 : Nat) (x50 : Int) (V52 : pm_M), (0 ≤ x50 ∧ x50 ≤ 499) → pm_oq pm_qB V52 → pm_fs [100, 101] [23, 25] V0 V52 → V52 90 27 = 102 → V52 90 28 = 103 → V52 90 30 = 105 → V52 90 23 = y14 → V52 90 25 = y18 → pm_h4 V52 → (∀ q : Nat, (q : Int) < x50 → V52 101 q = V0 106 (300 * a1 + (q : Int)).toNat) → B42 (x31, V33) = pf_val (.inr ((0 : Int), V0)) B62 (x50, V52) → (Int.toNat (499 - x50)) = N67 → pm_J X 73 [(0, (3, 90)), (1, (0, a1)), (2, (0, x50))] [] 118 V52 := by
            intro N67
            induction N67 using Nat.strongRecOn with
            | _ N67 ih68 =>
            intro x50 V52 b51 hV53 hF54 e55 e56 e57 e58 e59 hp60 hx61 hb44 hm66
            have hb64 := congrFun hB63 (x50, V52)
            refine pm_iload_n hC 2 dX12_back_73 rfl ?_
            refine pm_sipush (v := 300) hC dX12_back_74 (by decide) ?_
            refine pm_icmp_ge (tgt := 104) hC ⟨by omega, by omega⟩ ⟨by decide, by decide⟩ dX12_back_77 (by decide) (fun c69 => ?_) (fun c69 => ?_)
            · skip
              replace hb64 := hb64.trans (if_pos c69)
              refine pm_iconst (v := 1) hC dX12_back_104 ?_
              have hb44 := hb44.trans (pf_val_inr hb64)
              have hT := hT.trans (pf_val_inr hb44)
              exact pm_iret hC hR (pm_narZ (by omega)) ⟨1, rfl, ⟨by omega, by omega⟩, hV53, hF54, (pm_h3.back hn_pm_h4 (by omega) (by omega) (by rw [e10]; omega) (hV0.get 105 (a1 : Int).toNat (lo := 0) (hi := 60) (t := 0) (by decide) (show _ < 3 by omega) rfl).2 (hF54.2 16 (by decide)) (e59.trans e19.symm) (fun q h => hx61 q (by omega))), hT⟩ dX12_back_105
            · skip
              replace hb64 := hb64.trans (if_neg (Int.not_le.mpr c69))
              refine pm_aload_n hC 0 (by decide) dX12_back_80 rfl ?_
              have e70 : V52 90 26 = 101 := hV53.one 90 26 (by decide) (by decide) rfl
              refine pm_getf (v := 101) hC 90 fl_X12_43 rfl rfl (by decide) rfl e70 dX12_back_81 ?_
              refine pm_iload_n hC 2 dX12_back_84 rfl ?_
              refine pm_aload_n hC 0 (by decide) dX12_back_85 rfl ?_
              have e71 : V52 90 31 = 106 := hV53.one 90 31 (by decide) (by decide) rfl
              refine pm_getf (v := 106) hC 90 fl_X12_58 rfl rfl (by decide) rfl e71 dX12_back_86 ?_
              refine pm_sipush (v := 300) hC dX12_back_89 (by decide) ?_
              refine pm_iload_n hC 1 dX12_back_92 rfl ?_
              refine pm_imul hC dX12_back_93 ?_
              refine pm_iload_n hC 2 dX12_back_94 rfl ?_
              refine pm_iadd hC dX12_back_95 ?_
              obtain ⟨y72, e73⟩ : ∃ y, V52 106 (((300 * a1) + x50) : Int).toNat = y := ⟨_, rfl⟩
              replace hb64 := hb64.trans (pf_let_eq e73)
              have be75 := hV53 106 (by decide) (by decide) (((300 * a1) + x50) : Int).toNat (show _ < 900 by omega)
              rw [e73] at be75
              have b74 : (-99) ≤ y72 ∧ y72 ≤ 999 := pm_qhull be75 rfl rfl (by decide)
              refine pm_iaload (len := 900) (v := y72) hC 106 rfl rfl (by decide) ⟨by omega, by omega⟩ (by decide) e73 dX12_back_96 ?_
              refine pm_iastore (len := 300) hC 101 rfl rfl (by decide) ⟨by omega, by omega⟩ (by decide) dX12_back_97 ?_
              obtain ⟨x76, ei77⟩ : ∃ y : Int, x50 + 1 = y := ⟨_, rfl⟩
              replace hb64 := hb64.trans (pf_let_eq ei77)
              refine pm_iinc (y := x76) (lv' := [(2, (0, x76)), (0, (3, 90)), (1, (0, a1))]) hC 2 dX12_back_98 (by decide) rfl ei77 rfl ?_
              refine pm_goto (tgt := 73) hC dX12_back_101 (by decide) ?_
              refine pm_lvsub [1, 2, 0] (lv' := [(0, (3, 90)), (1, (0, a1)), (2, (0, x76))]) rfl ?_
              exact ih68 _ (by omega) x76 (pm_up V52 101 (x50 : Int).toNat y72) ⟨by omega, by omega⟩ (hV53.putel 101 (x50 : Int).toNat (x := y72) (by rw [pm_qe_c (k := 101) (k' := 106) (i' := (((300 * a1) + x50) : Int).toNat) (m := 5) rfl rfl rfl (by omega)]; exact be75)) (hF54.up 101 (x50 : Int).toNat y72 (by decide) rfl) e55 e56 e57 e58 e59 (pm_h4.fr hp60 rfl rfl rfl rfl) (fun q h => by (by_cases hq : q = (x50 : Int).toNat); (show pm_up V52 101 (x50 : Int).toNat y72 101 q = V0 106 (300 * a1 + (q : Int)).toNat; rw [hq, pm_up_s, ← e73, hF54.1 106 (by decide) (by decide), show (300 * a1 + (((x50 : Int).toNat : Nat) : Int)).toNat = (((300 * a1) + x50) : Int).toNat by omega]); (show pm_up V52 101 (x50 : Int).toNat y72 101 q = V0 106 (300 * a1 + (q : Int)).toNat; rw [pm_up_i hq]; exact hx61 q (by omega))) (hb44.trans (pf_val_inl hb64)) rfl
          refine pm_lvsub [1, 2, 0] (lv' := [(0, (3, 90)), (1, (0, a1)), (2, (0, 0))]) rfl ?_
          exact L65 _ 0 V33 ⟨by decide, by decide⟩ hV34 hF35 e36 e37 e38 e39 e40 hp41 (fun q h => absurd h (by omega)) hb44 rfl
        · skip
          replace hb44 := hb44.trans (if_neg (Int.not_le.mpr c49))
          refine pm_aload_n hC 0 (by decide) dX12_back_48 rfl ?_
          have e78 : V33 90 24 = 100 := hV34.one 90 24 (by decide) (by decide) rfl
          refine pm_getf (v := 100) hC 90 fl_X12_40 rfl rfl (by decide) rfl e78 dX12_back_49 ?_
          refine pm_iload_n hC 2 dX12_back_52 rfl ?_
          refine pm_aload_n hC 0 (by decide) dX12_back_53 rfl ?_
          have e79 : V33 90 29 = 104 := hV34.one 90 29 (by decide) (by decide) rfl
          refine pm_getf (v := 104) hC 90 fl_X12_52 rfl rfl (by decide) rfl e79 dX12_back_54 ?_
          refine pm_bipush (v := 40) hC dX12_back_57 (by decide) ?_
          refine pm_iload_n hC 1 dX12_back_59 rfl ?_
          refine pm_imul hC dX12_back_60 ?_
          refine pm_iload_n hC 2 dX12_back_61 rfl ?_
          refine pm_iadd hC dX12_back_62 ?_
          obtain ⟨y80, e81⟩ : ∃ y, V33 104 (((40 * a1) + x31) : Int).toNat = y := ⟨_, rfl⟩
          replace hb44 := hb44.trans (pf_let_eq e81)
          have be83 := hV34 104 (by decide) (by decide) (((40 * a1) + x31) : Int).toNat (show _ < 120 by omega)
          rw [e81] at be83
          have b82 : (-30) ≤ y80 ∧ y80 ≤ 30 := pm_qhull be83 rfl rfl (by decide)
          refine pm_iaload (len := 120) (v := y80) hC 104 rfl rfl (by decide) ⟨by omega, by omega⟩ (by decide) e81 dX12_back_63 ?_
          refine pm_iastore (len := 40) hC 100 rfl rfl (by decide) ⟨by omega, by omega⟩ (by decide) dX12_back_64 ?_
          obtain ⟨x84, ei85⟩ : ∃ y : Int, x31 + 1 = y := ⟨_, rfl⟩
          replace hb44 := hb44.trans (pf_let_eq ei85)
          refine pm_iinc (y := x84) (lv' := [(2, (0, x84)), (0, (3, 90)), (1, (0, a1))]) hC 2 dX12_back_65 (by decide) rfl ei85 rfl ?_
          refine pm_goto (tgt := 42) hC dX12_back_68 (by decide) ?_
          refine pm_lvsub [1, 2, 0] (lv' := [(0, (3, 90)), (1, (0, a1)), (2, (0, x84))]) rfl ?_
          exact ih48 _ (by omega) x84 (pm_up V33 100 (x31 : Int).toNat y80) ⟨by omega, by omega⟩ (hV34.putel 100 (x31 : Int).toNat (x := y80) (by rw [pm_qe_c (k := 100) (k' := 104) (i' := (((40 * a1) + x31) : Int).toNat) (m := 4) rfl rfl rfl (by omega)]; exact be83)) (hF35.up 100 (x31 : Int).toNat y80 (by decide) rfl) e36 e37 e38 e39 e40 (pm_h4.fr hp41 rfl rfl rfl rfl) (hT.trans (pf_val_inl hb44)) rfl
      refine pm_lvsub [1, 2, 0] (lv' := [(0, (3, 90)), (1, (0, a1)), (2, (0, 0))]) rfl ?_
      exact L45 _ 0 V21 ⟨by decide, by decide⟩ hV23 hF24 e25 e26 e27 e28 e29 hp30 hT rfl
    · skip
      replace hT := hT.trans (if_neg (fun q => q c12))
      refine pm_iconst (v := 0) hC dX12_back_18 ?_
      exact pm_iret hC hR (pm_narZ (by omega)) ⟨0, rfl, ⟨by omega, by omega⟩, hV0, (pm_fs.rf (cs := [100, 101]) (fs := [23, 25]) (V := V0)), hn_pm_h3, hT⟩ dX12_back_19
