set_option maxHeartbeats 4000000 in
set_option maxRecDepth 100000 in
theorem B_X12_takesVoice  : pm_K 1 yX12_takesVoice cX12_takesVoice 2 none (fun av V => av = [(3, 90)] ∧ pm_oq pm_qB V ∧ pm_w1 V) (fun _ V r V' => r = none ∧ pm_oq pm_qB V' ∧ pm_fs [112] [] V V' ∧ pm_pos V') := by
  refine pm_MT.of (by decide) ⟨Nat.le_refl _, by decide⟩ (fun av V h => by rw [h.1]; exact (by decide : pm_words [(3, 0)] ≤ 2)) ?_
  rintro X av V0 hC - hR ⟨rfl, hV0, hn_pm_w1⟩
  change pm_J X 0 [(0, (3, 90))] [] 118 V0
  obtain ⟨y1, e2⟩ : ∃ y, V0 90 48 = y := ⟨_, rfl⟩
  have b3 := hV0.get 90 48 (lo := 0) (hi := 8) (by decide) (by decide) rfl
  rw [e2] at b3
  refine pm_iconst (v := 0) hC dX12_takesVoice_0 ?_
  refine pm_istore_n (lv' := [(1, (0, 0)), (0, (3, 90))]) hC dX12_takesVoice_1 (by decide) rfl ?_
  have L12 : ∀ (N14 : Nat) (x4 : Int) (V6 : pm_M), (0 ≤ x4 ∧ x4 ≤ 9) → pm_oq pm_qB V6 → pm_fs [112] [] V0 V6 → V6 90 48 = y1 → pm_w1 V6 → (y1 < x4 → 1 ≤ V6 112 (y1).toNat) → (Int.toNat (9 - x4)) = N14 → pm_J X 2 [(0, (3, 90)), (1, (0, x4))] [] 118 V6 := by
    intro N14
    induction N14 using Nat.strongRecOn with
    | _ N14 ih15 =>
    intro x4 V6 b5 hV7 hF8 e9 hp10 hx11 hm13
    refine pm_iload_n hC 1 dX12_takesVoice_2 rfl ?_
    refine pm_aload_n hC 0 (by decide) dX12_takesVoice_3 rfl ?_
    obtain ⟨y16, e17⟩ : ∃ y, V6 90 16 = y := ⟨_, rfl⟩
    have b18 := hV7.get 90 16 (lo := 2) (hi := 9) (by decide) (by decide) rfl
    rw [e17] at b18
    refine pm_getf (v := y16) hC 90 fl_X12_220 rfl rfl (by decide) rfl e17 dX12_takesVoice_4 ?_
    refine pm_icmp_ge (tgt := 29) hC ⟨by omega, by omega⟩ ⟨by omega, by omega⟩ dX12_takesVoice_7 (by decide) (fun c19 => ?_) (fun c19 => ?_)
    · skip
      exact pm_vret hC hR ⟨rfl, hV7, hF8, ⟨(y1).toNat, by (have hw20 := hp10; unfold pm_w1 at hw20; rw [e9] at hw20; rw [e17] at hw20); rw [e17]; omega, hx11 (by (have hw20 := hp10; unfold pm_w1 at hw20; rw [e9] at hw20; rw [e17] at hw20); omega)⟩⟩ dX12_takesVoice_29
    · skip
      refine pm_aload_n hC 0 (by decide) dX12_takesVoice_10 rfl ?_
      have e21 : V6 90 50 = 112 := hV7.one 90 50 (by decide) (by decide) rfl
      refine pm_getf (v := 112) hC 90 fl_X12_76 rfl rfl (by decide) rfl e21 dX12_takesVoice_11 ?_
      refine pm_iload_n hC 1 dX12_takesVoice_14 rfl ?_
      refine pm_aload_n hC 0 (by decide) dX12_takesVoice_15 rfl ?_
      have e22 : V6 90 40 = 110 := hV7.one 90 40 (by decide) (by decide) rfl
      refine pm_getf (v := 110) hC 90 fl_X12_70 rfl rfl (by decide) rfl e22 dX12_takesVoice_16 ?_
      refine pm_iload_n hC 1 dX12_takesVoice_19 rfl ?_
      obtain ⟨y23, e24⟩ : ∃ y, V6 110 (x4 : Int).toNat = y := ⟨_, rfl⟩
      have b25 := hV7.get 110 (x4 : Int).toNat (lo := 0) (hi := 1539) (t := 0) (by decide) (show _ < 9 by omega) rfl
      rw [e24] at b25
      refine pm_iaload (len := 9) (v := y23) hC 110 rfl rfl (by decide) ⟨by omega, by omega⟩ (by decide) e24 dX12_takesVoice_20 ?_
      refine pm_i2l hC ⟨by omega, by omega⟩ dX12_takesVoice_21 ?_
      have hv26 : y1 = x4 → 1 ≤ y23 := by
        intro hq
        have q1 : V6 110 (x4).toNat = V6 110 (y1).toNat := by rw [hq]
        have hw27 := hp10
        unfold pm_w1 at hw27
        rw [e9] at hw27
        rw [e17] at hw27
        omega
      refine pm_lastore (len := 9) hC 112 rfl rfl (by decide) ⟨by omega, by omega⟩ (by decide) dX12_takesVoice_22 ?_
      obtain ⟨x28, ei29⟩ : ∃ y : Int, x4 + 1 = y := ⟨_, rfl⟩
      refine pm_iinc (y := x28) (lv' := [(1, (0, x28)), (0, (3, 90))]) hC 1 dX12_takesVoice_23 (by decide) rfl ei29 rfl ?_
      refine pm_goto (tgt := 2) hC dX12_takesVoice_26 (by decide) ?_
      refine pm_lvsub [1, 0] (lv' := [(0, (3, 90)), (1, (0, x28))]) rfl ?_
      exact ih15 _ (by omega) x28 (pm_up V6 112 (x4 : Int).toNat y23) ⟨by omega, by omega⟩ (hV7.put 112 (x4 : Int).toNat (x := y23) (lo := 0) (hi := 80000000) rfl ⟨by omega, by omega⟩) (hF8.up 112 (x4 : Int).toNat y23 (by decide) rfl) e9 (pm_w1.fr hp10 rfl rfl rfl rfl rfl) (fun h => pm_up_get (V := V6) (k := 112) (i := x4) (a := y1) (x := y23) (p := fun z => 1 ≤ z) (by omega) (by omega) hv26 (fun hne => hx11 (by omega))) rfl
  refine pm_lvsub [1, 0] (lv' := [(0, (3, 90)), (1, (0, 0))]) rfl ?_
  exact L12 _ 0 V0 ⟨by decide, by decide⟩ hV0 (pm_fs.rf (cs := [112]) (fs := []) (V := V0)) e2 hn_pm_w1 (fun h => absurd h (by omega)) rfl
set_option maxHeartbeats 4000000 in
set_option maxRecDepth 100000 in
theorem B_X12_takesFace  : pm_K 1 yX12_takesFace cX12_takesFace 2 none (fun av V => av = [(3, 90)] ∧ pm_oq pm_qB V ∧ pm_w1 V ∧ pm_h1 V) (fun _ V r V' => r = none ∧ pm_oq pm_qB V' ∧ pm_fs [112] [] V V' ∧ pm_pos V') := by
  refine pm_MT.of (by decide) ⟨Nat.le_refl _, by decide⟩ (fun av V h => by rw [h.1]; exact (by decide : pm_words [(3, 0)] ≤ 2)) ?_
  rintro X av V0 hC - hR ⟨rfl, hV0, hn_pm_w1, hn_pm_h1⟩
  change pm_J X 0 [(0, (3, 90))] [] 118 V0
  obtain ⟨y1, e2⟩ : ∃ y, V0 90 49 = y := ⟨_, rfl⟩
  have b3 := hV0.get 90 49 (lo := 0) (hi := 8) (by decide) (by decide) rfl
  rw [e2] at b3
  refine pm_iconst (v := 0) hC dX12_takesFace_0 ?_
  refine pm_istore_n (lv' := [(1, (0, 0)), (0, (3, 90))]) hC dX12_takesFace_1 (by decide) rfl ?_
  have L13 : ∀ (N15 : Nat) (x4 : Int) (V6 : pm_M), (0 ≤ x4 ∧ x4 ≤ 9) → pm_oq pm_qB V6 → pm_fs [112] [] V0 V6 → V6 90 49 = y1 → pm_w1 V6 → pm_h1 V6 → (y1 < x4 → 1 ≤ V6 112 (y1).toNat) → (Int.toNat (9 - x4)) = N15 → pm_J X 2 [(0, (3, 90)), (1, (0, x4))] [] 118 V6 := by
    intro N15
    induction N15 using Nat.strongRecOn with
    | _ N15 ih16 =>
    intro x4 V6 b5 hV7 hF8 e9 hp10 hp11 hx12 hm14
    refine pm_iload_n hC 1 dX12_takesFace_2 rfl ?_
    refine pm_aload_n hC 0 (by decide) dX12_takesFace_3 rfl ?_
    obtain ⟨y17, e18⟩ : ∃ y, V6 90 16 = y := ⟨_, rfl⟩
    have b19 := hV7.get 90 16 (lo := 2) (hi := 9) (by decide) (by decide) rfl
    rw [e18] at b19
    refine pm_getf (v := y17) hC 90 fl_X12_220 rfl rfl (by decide) rfl e18 dX12_takesFace_4 ?_
    refine pm_icmp_ge (tgt := 41) hC ⟨by omega, by omega⟩ ⟨by omega, by omega⟩ dX12_takesFace_7 (by decide) (fun c20 => ?_) (fun c20 => ?_)
    · skip
      exact pm_vret hC hR ⟨rfl, hV7, hF8, ⟨(y1).toNat, by (have hw21 := hp10; unfold pm_w1 at hw21; rw [e9] at hw21; rw [e18] at hw21); rw [e18]; omega, hx12 (by (have hw21 := hp10; unfold pm_w1 at hw21; rw [e9] at hw21; rw [e18] at hw21); omega)⟩⟩ dX12_takesFace_41
    · skip
      refine pm_aload_n hC 0 (by decide) dX12_takesFace_10 rfl ?_
      have e22 : V6 90 50 = 112 := hV7.one 90 50 (by decide) (by decide) rfl
      refine pm_getf (v := 112) hC 90 fl_X12_76 rfl rfl (by decide) rfl e22 dX12_takesFace_11 ?_
      refine pm_iload_n hC 1 dX12_takesFace_14 rfl ?_
      refine pm_aload_n hC 0 (by decide) dX12_takesFace_15 rfl ?_
      have e23 : V6 90 17 = 97 := hV7.one 90 17 (by decide) (by decide) rfl
      refine pm_getf (v := 97) hC 90 fl_X12_31 rfl rfl (by decide) rfl e23 dX12_takesFace_16 ?_
      refine pm_iconst (v := 3) hC dX12_takesFace_19 ?_
      refine pm_iload_n hC 1 dX12_takesFace_20 rfl ?_
      refine pm_imul hC dX12_takesFace_21 ?_
      refine pm_iconst (v := 2) hC dX12_takesFace_22 ?_
      refine pm_iadd hC dX12_takesFace_23 ?_
      obtain ⟨y24, e25⟩ : ∃ y, V6 97 (((3 * x4) + 2) : Int).toNat = y := ⟨_, rfl⟩
      have b26 := hV7.get 97 (((3 * x4) + 2) : Int).toNat (lo := 0) (hi := 9) (t := 0) (by decide) (show _ < 27 by omega) ((pm_qe_r (tb := pm_qB) (k := 97) (i := (((3 * x4) + 2) : Int).toNat) (m := 3) (r := 2) (l := [(0, 99, 0), (0, 99, 0), (0, 9, 0)]) rfl rfl (by omega)).trans rfl)
      rw [e25] at b26
      refine pm_iaload (len := 27) (v := y24) hC 97 rfl rfl (by decide) ⟨by omega, by omega⟩ (by decide) e25 dX12_takesFace_24 ?_
      refine pm_i2l hC ⟨by omega, by omega⟩ dX12_takesFace_25 ?_
      refine pm_aload_n hC 0 (by decide) dX12_takesFace_26 rfl ?_
      have e27 : V6 90 41 = 111 := hV7.one 90 41 (by decide) (by decide) rfl
      refine pm_getf (v := 111) hC 90 fl_X12_73 rfl rfl (by decide) rfl e27 dX12_takesFace_27 ?_
      refine pm_iload_n hC 1 dX12_takesFace_30 rfl ?_
      obtain ⟨y28, e29⟩ : ∃ y, V6 111 (x4 : Int).toNat = y := ⟨_, rfl⟩
      have b30 := hV7.get 111 (x4 : Int).toNat (lo := 0) (hi := 171) (t := 0) (by decide) (show _ < 9 by omega) rfl
      rw [e29] at b30
      refine pm_iaload (len := 9) (v := y28) hC 111 rfl rfl (by decide) ⟨by omega, by omega⟩ (by decide) e29 dX12_takesFace_31 ?_
      refine pm_i2l hC ⟨by omega, by omega⟩ dX12_takesFace_32 ?_
      refine pm_lmul hC dX12_takesFace_33 ?_
      have b32 : 0 ≤ (y24 * y28) ∧ (y24 * y28) ≤ 1539 := pm_mulb (by omega) (by omega) (show y24 ≤ 9 by omega) (show y28 ≤ 171 by omega) (by decide)
      generalize hey31 : (y24 * y28) = y31 at b32 ⊢
      have hv33 : y1 = x4 → 1 ≤ y31 := by
        intro hq
        have q1 : V6 111 (x4).toNat = V6 111 (y1).toNat := by rw [hq]
        have hw34 := hp10
        unfold pm_w1 at hw34
        rw [e9] at hw34
        rw [e18] at hw34
        have hh := hp11 x4 (by omega) (by omega)
        have hp : 1 ≤ y24 * y28 := pm_mul1 (by omega) (by omega)
        omega
      refine pm_lastore (len := 9) hC 112 rfl rfl (by decide) ⟨by omega, by omega⟩ (by decide) dX12_takesFace_34 ?_
      obtain ⟨x35, ei36⟩ : ∃ y : Int, x4 + 1 = y := ⟨_, rfl⟩
      refine pm_iinc (y := x35) (lv' := [(1, (0, x35)), (0, (3, 90))]) hC 1 dX12_takesFace_35 (by decide) rfl ei36 rfl ?_
      refine pm_goto (tgt := 2) hC dX12_takesFace_38 (by decide) ?_
      refine pm_lvsub [1, 0] (lv' := [(0, (3, 90)), (1, (0, x35))]) rfl ?_
      exact ih16 _ (by omega) x35 (pm_up V6 112 (x4 : Int).toNat y31) ⟨by omega, by omega⟩ (hV7.put 112 (x4 : Int).toNat (x := y31) (lo := 0) (hi := 80000000) rfl ⟨by omega, by omega⟩) (hF8.up 112 (x4 : Int).toNat y31 (by decide) rfl) e9 (pm_w1.fr hp10 rfl rfl rfl rfl rfl) (pm_h1.fr hp11 rfl rfl) (fun h => pm_up_get (V := V6) (k := 112) (i := x4) (a := y1) (x := y31) (p := fun z => 1 ≤ z) (by omega) (by omega) hv33 (fun hne => hx12 (by omega))) rfl
  refine pm_lvsub [1, 0] (lv' := [(0, (3, 90)), (1, (0, 0))]) rfl ?_
  exact L13 _ 0 V0 ⟨by decide, by decide⟩ hV0 (pm_fs.rf (cs := [112]) (fs := []) (V := V0)) e2 hn_pm_w1 hn_pm_h1 (fun h => absurd h (by omega)) rfl
set_option maxHeartbeats 4000000 in
set_option maxRecDepth 100000 in
theorem B_X12_takesOdds  : pm_K 2 yX12_takesOdds cX12_takesOdds 4 none (fun av V => av = [(3, 90)] ∧ pm_oq pm_qB V ∧ pm_w1 V) (fun _ V r V' => r = none ∧ pm_oq pm_qB V' ∧ pm_fs [112] [] V V' ∧ pm_pos V') := by
  refine pm_MT.of (by decide) ⟨Nat.le_refl _, by decide⟩ (fun av V h => by rw [h.1]; exact (by decide : pm_words [(3, 0)] ≤ 4)) ?_
  rintro X av V0 hC - hR ⟨rfl, hV0, hn_pm_w1⟩
  change pm_J X 0 [(0, (3, 90))] [] 118 V0
  obtain ⟨y1, e2⟩ : ∃ y, V0 90 16 = y := ⟨_, rfl⟩
  have b3 := hV0.get 90 16 (lo := 2) (hi := 9) (by decide) (by decide) rfl
  rw [e2] at b3
  refine pm_lconst (x := 0) hC dX12_takesOdds_0 rfl ?_
  refine pm_lstore_n (lv' := [(1, (1, 0)), (0, (3, 90))]) hC dX12_takesOdds_1 (by decide) rfl ?_
  refine pm_iconst (v := 0) hC dX12_takesOdds_2 ?_
  refine pm_istore_n (lv' := [(3, (0, 0)), (1, (1, 0)), (0, (3, 90))]) hC dX12_takesOdds_3 (by decide) rfl ?_
  have L16 : ∀ (N18 : Nat) (x4 : Int) (x6 : Int) (V9 : pm_M), (0 ≤ x4 ∧ x4 ≤ 720000000) → (0 ≤ x6 ∧ x6 ≤ 9) → (x4 ≤ 80000000 * x6) → pm_oq pm_qB V9 → pm_fs [112] [] V0 V9 → V9 90 16 = y1 → pm_w1 V9 → (1 ≤ x4 → ∃ q : Nat, (q : Int) < x6 ∧ 1 ≤ V9 112 q) → (x6 ≤ V9 90 16) → (Int.toNat (9 - x6)) = N18 → pm_J X 4 [(0, (3, 90)), (1, (1, x4)), (3, (0, x6))] [] 118 V9 := by
    intro N18
    induction N18 using Nat.strongRecOn with
    | _ N18 ih19 =>
    intro x4 x6 V9 b5 b7 b8 hV10 hF11 e12 hp13 hx14 hx15 hm17
    refine pm_iload_n hC 2 dX12_takesOdds_4 rfl ?_
    refine pm_aload_n hC 0 (by decide) dX12_takesOdds_5 rfl ?_
    refine pm_getf (v := y1) hC 90 fl_X12_220 rfl rfl (by decide) rfl e12 dX12_takesOdds_6 ?_
    refine pm_icmp_ge (tgt := 82) hC ⟨by omega, by omega⟩ ⟨by omega, by omega⟩ dX12_takesOdds_9 (by decide) (fun c20 => ?_) (fun c20 => ?_)
    · skip
      refine pm_lload_n hC 1 dX12_takesOdds_82 rfl ?_
      refine pm_lconst (x := 0) hC dX12_takesOdds_83 rfl ?_
      refine pm_lcmp hC ⟨by omega, by omega⟩ ⟨by decide, by decide⟩ dX12_takesOdds_84 (fun y21 b22 => ?_)
      refine pm_if_ne (tgt := 92) hC ⟨by omega, by omega⟩ dX12_takesOdds_85 (by decide) (fun c23 => ?_) (fun c23 => ?_)
      · skip
        exact pm_vret hC hR ⟨rfl, hV10, hF11, (by have hle := hx15; obtain ⟨q, hq1, hq2⟩ := hx14 (by omega); exact ⟨q, by omega, hq2⟩)⟩ dX12_takesOdds_92
      · skip
        refine pm_aload_n hC 0 (by decide) dX12_takesOdds_88 rfl ?_
        refine pm_callV (ci := 12) (as := []) (st := []) hC 90 B_X12_takesVoice lm_X12_344 li_X12_takesVoice (by decide) (by decide) rfl rfl rfl (by decide) rfl rfl (Nat.le_of_ble_eq_true rfl) ⟨Nat.le_refl _, Or.inl rfl⟩ dX12_takesOdds_89 ⟨rfl, hV10, hp13⟩ (fun r24 V25 hp26 => ?_)
        obtain ⟨rfl, hV27, hF28, hg29⟩ := hp26
        change pm_J X 92 [(0, (3, 90)), (1, (1, x4)), (3, (0, x6))] [] 118 V25
        have hF30 := pm_fs.tr hF11 hF28 (by decide) (by decide)
        have e31 : V25 90 16 = y1 := by rw [hF28.2 16 (by decide)]; exact e12
        have hp32 : pm_w1 V25 := (pm_w1.fr hp13 (hF28.2 16 (by decide)) (hF28.2 48 (by decide)) (hF28.2 49 (by decide)) (hF28.1 110 (by decide) (by decide)) (hF28.1 111 (by decide) (by decide)))
        exact pm_vret hC hR ⟨rfl, hV27, hF30, hg29⟩ dX12_takesOdds_92
    · skip
      refine pm_aload_n hC 0 (by decide) dX12_takesOdds_12 rfl ?_
      have e33 : V9 90 50 = 112 := hV10.one 90 50 (by decide) (by decide) rfl
      refine pm_getf (v := 112) hC 90 fl_X12_76 rfl rfl (by decide) rfl e33 dX12_takesOdds_13 ?_
      refine pm_iload_n hC 2 dX12_takesOdds_16 rfl ?_
      refine pm_aload_n hC 0 (by decide) dX12_takesOdds_17 rfl ?_
      obtain ⟨y34, e35⟩ : ∃ y, V9 90 47 = y := ⟨_, rfl⟩
      have b36 := hV10.get 90 47 (lo := 0) (hi := 16) (by decide) (by decide) rfl
      rw [e35] at b36
      refine pm_getf (v := y34) hC 90 fl_X12_323 rfl rfl (by decide) rfl e35 dX12_takesOdds_18 ?_
      refine pm_i2l hC ⟨by omega, by omega⟩ dX12_takesOdds_21 ?_
      refine pm_aload_n hC 0 (by decide) dX12_takesOdds_22 rfl ?_
      refine pm_getf (v := y1) hC 90 fl_X12_220 rfl rfl (by decide) rfl e12 dX12_takesOdds_23 ?_
      refine pm_i2l hC ⟨by omega, by omega⟩ dX12_takesOdds_26 ?_
      refine pm_lmul hC dX12_takesOdds_27 ?_
      have b38 : 0 ≤ (y34 * y1) ∧ (y34 * y1) ≤ 144 := pm_mulb (by omega) (by omega) (show y34 ≤ 16 by omega) (show y1 ≤ 9 by omega) (by decide)
      generalize (y34 * y1) = y37 at b38 ⊢
      refine pm_aload_n hC 0 (by decide) dX12_takesOdds_28 rfl ?_
      have e39 : V9 90 40 = 110 := hV10.one 90 40 (by decide) (by decide) rfl
      refine pm_getf (v := 110) hC 90 fl_X12_70 rfl rfl (by decide) rfl e39 dX12_takesOdds_29 ?_
      refine pm_iload_n hC 2 dX12_takesOdds_32 rfl ?_
      obtain ⟨y40, e41⟩ : ∃ y, V9 110 (x6 : Int).toNat = y := ⟨_, rfl⟩
      have b42 := hV10.get 110 (x6 : Int).toNat (lo := 0) (hi := 1539) (t := 0) (by decide) (show _ < 9 by omega) rfl
      rw [e41] at b42
      refine pm_iaload (len := 9) (v := y40) hC 110 rfl rfl (by decide) ⟨by omega, by omega⟩ (by decide) e41 dX12_takesOdds_33 ?_
      refine pm_i2l hC ⟨by omega, by omega⟩ dX12_takesOdds_34 ?_
      refine pm_lmul hC dX12_takesOdds_35 ?_
      have b44 : 0 ≤ (y37 * y40) ∧ (y37 * y40) ≤ 221616 := pm_mulb (by omega) (by omega) (show y37 ≤ 144 by omega) (show y40 ≤ 1539 by omega) (by decide)
      generalize (y37 * y40) = y43 at b44 ⊢
      refine pm_aload_n hC 0 (by decide) dX12_takesOdds_36 rfl ?_
      have e45 : V9 90 41 = 111 := hV10.one 90 41 (by decide) (by decide) rfl
      refine pm_getf (v := 111) hC 90 fl_X12_73 rfl rfl (by decide) rfl e45 dX12_takesOdds_37 ?_
      refine pm_iload_n hC 2 dX12_takesOdds_40 rfl ?_
      obtain ⟨y46, e47⟩ : ∃ y, V9 111 (x6 : Int).toNat = y := ⟨_, rfl⟩
      have b48 := hV10.get 111 (x6 : Int).toNat (lo := 0) (hi := 171) (t := 0) (by decide) (show _ < 9 by omega) rfl
      rw [e47] at b48
      refine pm_iaload (len := 9) (v := y46) hC 111 rfl rfl (by decide) ⟨by omega, by omega⟩ (by decide) e47 dX12_takesOdds_41 ?_
      refine pm_i2l hC ⟨by omega, by omega⟩ dX12_takesOdds_42 ?_
      refine pm_lmul hC dX12_takesOdds_43 ?_
      have b50 : 0 ≤ (y43 * y46) ∧ (y43 * y46) ≤ 37896336 := pm_mulb (by omega) (by omega) (show y43 ≤ 221616 by omega) (show y46 ≤ 171 by omega) (by decide)
      generalize (y43 * y46) = y49 at b50 ⊢
      refine pm_bipush (v := 16) hC dX12_takesOdds_44 (by decide) ?_
      refine pm_aload_n hC 0 (by decide) dX12_takesOdds_46 rfl ?_
      refine pm_getf (v := y34) hC 90 fl_X12_323 rfl rfl (by decide) rfl e35 dX12_takesOdds_47 ?_
      refine pm_isub hC dX12_takesOdds_50 ?_
      refine pm_i2l hC ⟨by omega, by omega⟩ dX12_takesOdds_51 ?_
      refine pm_aload_n hC 0 (by decide) dX12_takesOdds_52 rfl ?_
      obtain ⟨y51, e52⟩ : ∃ y, V9 90 45 = y := ⟨_, rfl⟩
      have b53 := hV10.get 90 45 (lo := 0) (hi := 1539) (by decide) (by decide) rfl
      rw [e52] at b53
      refine pm_getf (v := y51) hC 90 fl_X12_329 rfl rfl (by decide) rfl e52 dX12_takesOdds_53 ?_
      refine pm_lmul hC dX12_takesOdds_56 ?_
      have b55 : 0 ≤ ((16 - y34) * y51) ∧ ((16 - y34) * y51) ≤ 24624 := pm_mulb (by omega) (by omega) (show (16 - y34) ≤ 16 by omega) (show y51 ≤ 1539 by omega) (by decide)
      generalize ((16 - y34) * y51) = y54 at b55 ⊢
      refine pm_aload_n hC 0 (by decide) dX12_takesOdds_57 rfl ?_
      refine pm_getf (v := 110) hC 90 fl_X12_70 rfl rfl (by decide) rfl e39 dX12_takesOdds_58 ?_
      refine pm_iload_n hC 2 dX12_takesOdds_61 rfl ?_
      refine pm_iaload (len := 9) (v := y40) hC 110 rfl rfl (by decide) ⟨by omega, by omega⟩ (by decide) e41 dX12_takesOdds_62 ?_
      refine pm_i2l hC ⟨by omega, by omega⟩ dX12_takesOdds_63 ?_
      refine pm_lmul hC dX12_takesOdds_64 ?_
      have b57 : 0 ≤ (y54 * y40) ∧ (y54 * y40) ≤ 37896336 := pm_mulb (by omega) (by omega) (show y54 ≤ 24624 by omega) (show y40 ≤ 1539 by omega) (by decide)
      generalize (y54 * y40) = y56 at b57 ⊢
      refine pm_ladd hC dX12_takesOdds_65 ?_
      refine pm_lastore (len := 9) hC 112 rfl rfl (by decide) ⟨by omega, by omega⟩ (by decide) dX12_takesOdds_66 ?_
      refine pm_lload_n hC 1 dX12_takesOdds_67 rfl ?_
      refine pm_aload_n hC 0 (by decide) dX12_takesOdds_68 rfl ?_
      refine pm_getf (v := 112) hC 90 fl_X12_76 rfl rfl (by decide) rfl e33 dX12_takesOdds_69 ?_
      refine pm_iload_n hC 2 dX12_takesOdds_72 rfl ?_
      have hV60 := (hV10.put 112 (x6 : Int).toNat (x := (y49 + y56)) (lo := 0) (hi := 80000000) rfl ⟨by omega, by omega⟩)
      have hF61 := (hF11.up 112 (x6 : Int).toNat (y49 + y56) (by decide) rfl)
      obtain ⟨V58, hv59⟩ : ∃ V, V = (pm_up V9 112 (x6 : Int).toNat (y49 + y56)) := ⟨_, rfl⟩
      rw [← hv59] at hV60 hF61
      rw [← hv59]
      have e62 : V58 90 16 = y1 := by rw [hv59]; exact e12
      have e63 : V58 90 50 = 112 := by rw [hv59]; exact e33
      have e64 : V58 90 47 = y34 := by rw [hv59]; exact e35
      have e65 : V58 90 40 = 110 := by rw [hv59]; exact e39
      have e66 : V58 90 41 = 111 := by rw [hv59]; exact e45
      have e67 : V58 90 45 = y51 := by rw [hv59]; exact e52
      have hp68 : pm_w1 V58 := by rw [hv59]; exact (pm_w1.fr hp13 rfl rfl rfl rfl rfl)
      obtain ⟨y69, e70⟩ : ∃ y, V58 112 (x6 : Int).toNat = y := ⟨_, rfl⟩
      have b71 := hV60.get 112 (x6 : Int).toNat (lo := 0) (hi := 80000000) (t := 0) (by decide) (show _ < 9 by omega) rfl
      rw [e70] at b71
      refine pm_laload (len := 9) (v := y69) hC 112 rfl rfl (by decide) ⟨by omega, by omega⟩ (by decide) e70 dX12_takesOdds_73 ?_
      refine pm_ladd hC dX12_takesOdds_74 ?_
      refine pm_lstore_n (lv' := [(1, (1, (x4 + y69))), (0, (3, 90)), (3, (0, x6))]) hC dX12_takesOdds_75 (by decide) rfl ?_
      obtain ⟨x72, ei73⟩ : ∃ y : Int, x6 + 1 = y := ⟨_, rfl⟩
      refine pm_iinc (y := x72) (lv' := [(3, (0, x72)), (1, (1, (x4 + y69))), (0, (3, 90))]) hC 2 dX12_takesOdds_76 (by decide) rfl ei73 rfl ?_
      refine pm_goto (tgt := 4) hC dX12_takesOdds_79 (by decide) ?_
      refine pm_lvsub [2, 1, 0] (lv' := [(0, (3, 90)), (1, (1, (x4 + y69))), (3, (0, x72))]) rfl ?_
      exact ih19 _ (by omega) (x4 + y69) x72 V58 ⟨by omega, by omega⟩ ⟨by omega, by omega⟩ (by omega) hV60 hF61 e62 hp68 (fun h => by (by_cases hy : 1 ≤ y69); (exact ⟨(x6 : Int).toNat, by omega, by rw [e70]; exact hy⟩); (obtain ⟨q, hq1, hq2⟩ := hx14 (by omega)); exact ⟨q, by omega, by rw [hv59, pm_up_i (by omega)]; exact hq2⟩) (by show x72 ≤ V58 90 16; rw [e62]; omega) rfl
  refine pm_lvsub [2, 1, 0] (lv' := [(0, (3, 90)), (1, (1, 0)), (3, (0, 0))]) rfl ?_
  exact L16 _ 0 0 V0 ⟨by decide, by decide⟩ ⟨by decide, by decide⟩ (by omega) hV0 (pm_fs.rf (cs := [112]) (fs := []) (V := V0)) e2 hn_pm_w1 (fun h => absurd h (by omega)) (by rw [e2]; omega) rfl
set_option maxHeartbeats 4000000 in
set_option maxRecDepth 100000 in
theorem B_X12_takesSurer  : pm_K 2 yX12_takesSurer cX12_takesSurer 8 none (fun av V => av = [(3, 90)] ∧ pm_oq pm_qB V ∧ pm_w1 V ∧ pm_h1 V) (fun _ V r V' => r = none ∧ pm_oq pm_qB V' ∧ pm_fs [112] [] V V' ∧ pm_pos V') := by
  refine pm_MT.of (by decide) ⟨Nat.le_refl _, by decide⟩ (fun av V h => by rw [h.1]; exact (by decide : pm_words [(3, 0)] ≤ 8)) ?_
  rintro X av V0 hC - hR ⟨rfl, hV0, hn_pm_w1, hn_pm_h1⟩
  change pm_J X 0 [(0, (3, 90))] [] 118 V0
  refine pm_lconst (x := 0) hC dX12_takesSurer_0 rfl ?_
  refine pm_lstore_n (lv' := [(1, (1, 0)), (0, (3, 90))]) hC dX12_takesSurer_1 (by decide) rfl ?_
  refine pm_lconst (x := 0) hC dX12_takesSurer_2 rfl ?_
  refine pm_lstore_n (lv' := [(3, (1, 0)), (1, (1, 0)), (0, (3, 90))]) hC dX12_takesSurer_3 (by decide) rfl ?_
  refine pm_lconst (x := 0) hC dX12_takesSurer_4 rfl ?_
  refine pm_lstore (lv' := [(5, (1, 0)), (3, (1, 0)), (1, (1, 0)), (0, (3, 90))]) hC dX12_takesSurer_5 (by decide) rfl ?_
  refine pm_aload_n hC 3 (by decide) dX12_takesSurer_7 rfl ?_
  refine pm_callV (ci := 12) (as := []) (st := []) hC 90 B_X12_takesFace lm_X12_347 li_X12_takesFace (by decide) (by decide) rfl rfl rfl (by decide) rfl rfl (Nat.le_of_ble_eq_true rfl) ⟨Nat.le_refl _, Or.inl rfl⟩ dX12_takesSurer_8 ⟨rfl, hV0, hn_pm_w1, hn_pm_h1⟩ (fun r1 V2 hp3 => ?_)
  obtain ⟨rfl, hV4, hF5, hg6⟩ := hp3
  change pm_J X 11 [(5, (1, 0)), (3, (1, 0)), (1, (1, 0)), (0, (3, 90))] [] 118 V2
  have hF7 := pm_fs.tr (pm_fs.rf (cs := [112]) (fs := []) (V := V0)) hF5 (by decide) (by decide)
  have hp8 : pm_w1 V2 := (pm_w1.fr hn_pm_w1 (hF5.2 16 (by decide)) (hF5.2 48 (by decide)) (hF5.2 49 (by decide)) (hF5.1 110 (by decide) (by decide)) (hF5.1 111 (by decide) (by decide)))
  have hp9 : pm_h1 V2 := (pm_h1.fr hn_pm_h1 (hF5.2 16 (by decide)) (hF5.1 97 (by decide) (by decide)))
  refine pm_iconst (v := 0) hC dX12_takesSurer_11 ?_
  refine pm_istore (lv' := [(7, (0, 0)), (5, (1, 0)), (3, (1, 0)), (1, (1, 0)), (0, (3, 90))]) hC dX12_takesSurer_12 (by decide) rfl ?_
  have L18 : ∀ (N20 : Nat) (x10 : Int) (x12 : Int) (x14 : Int) (x16 : Int), (0 ≤ x10 ∧ x10 ≤ 80000000) → ((-9223372036854775808) ≤ x12 ∧ x12 ≤ 9223372036854775807) → (0 ≤ x14 ∧ x14 ≤ 1539) → (0 ≤ x16 ∧ x16 ≤ 9) → (Int.toNat (9 - x16)) = N20 → pm_J X 14 [(0, (3, 90)), (1, (1, x10)), (3, (1, x12)), (5, (1, x14)), (7, (0, x16))] [] 118 V2 := by
    intro N20
    induction N20 using Nat.strongRecOn with
    | _ N20 ih21 =>
    intro x10 x12 x14 x16 b11 b13 b15 b17 hm19
    refine pm_iload hC 4 dX12_takesSurer_14 rfl ?_
    refine pm_aload_n hC 0 (by decide) dX12_takesSurer_16 rfl ?_
    obtain ⟨y22, e23⟩ : ∃ y, V2 90 16 = y := ⟨_, rfl⟩
    have b24 := hV4.get 90 16 (lo := 2) (hi := 9) (by decide) (by decide) rfl
    rw [e23] at b24
    refine pm_getf (v := y22) hC 90 fl_X12_220 rfl rfl (by decide) rfl e23 dX12_takesSurer_17 ?_
    refine pm_icmp_ge (tgt := 66) hC ⟨by omega, by omega⟩ ⟨by omega, by omega⟩ dX12_takesSurer_20 (by decide) (fun c25 => ?_) (fun c25 => ?_)
    · skip
      refine pm_lload_n hC 1 dX12_takesSurer_66 rfl ?_
      refine pm_aload_n hC 0 (by decide) dX12_takesSurer_67 rfl ?_
      obtain ⟨y26, e27⟩ : ∃ y, V2 90 44 = y := ⟨_, rfl⟩
      have b28 := hV4.get 90 44 (lo := 0) (hi := 13851) (by decide) (by decide) rfl
      rw [e27] at b28
      refine pm_getf (v := y26) hC 90 fl_X12_326 rfl rfl (by decide) rfl e27 dX12_takesSurer_68 ?_
      refine pm_lmul hC dX12_takesSurer_71 ?_
      have b30 : 0 ≤ (x10 * y26) ∧ (x10 * y26) ≤ 1108080000000 := pm_mulb (by omega) (by omega) (show x10 ≤ 80000000 by omega) (show y26 ≤ 13851 by omega) (by decide)
      generalize (x10 * y26) = y29 at b30 ⊢
      refine pm_lload hC 3 dX12_takesSurer_72 rfl ?_
      refine pm_lload_n hC 2 dX12_takesSurer_74 rfl ?_
      refine pm_lmul hC dX12_takesSurer_75 ?_
      refine pm_someL hC (fun y31 b32 => ?_)
      have b32 := And.intro b32.1 b32.2
      refine pm_lcmp hC ⟨by omega, by omega⟩ ⟨by omega, by omega⟩ dX12_takesSurer_76 (fun y33 b34 => ?_)
      refine pm_if_gt (tgt := 84) hC ⟨by omega, by omega⟩ dX12_takesSurer_77 (by decide) (fun c35 => ?_) (fun c35 => ?_)
      · skip
        exact pm_vret hC hR ⟨rfl, hV4, hF7, hg6⟩ dX12_takesSurer_84
      · skip
        refine pm_aload_n hC 0 (by decide) dX12_takesSurer_80 rfl ?_
        refine pm_callV (ci := 12) (as := []) (st := []) hC 90 B_X12_takesVoice lm_X12_344 li_X12_takesVoice (by decide) (by decide) rfl rfl rfl (by decide) rfl rfl (Nat.le_of_ble_eq_true rfl) ⟨Nat.le_refl _, Or.inl rfl⟩ dX12_takesSurer_81 ⟨rfl, hV4, hp8⟩ (fun r36 V37 hp38 => ?_)
        obtain ⟨rfl, hV39, hF40, hg41⟩ := hp38
        change pm_J X 84 [(0, (3, 90)), (1, (1, x10)), (3, (1, x12)), (5, (1, x14)), (7, (0, x16))] [] 118 V37
        have hF42 := pm_fs.tr hF7 hF40 (by decide) (by decide)
        have e43 : V37 90 16 = y22 := by rw [hF40.2 16 (by decide)]; exact e23
        have e44 : V37 90 44 = y26 := by rw [hF40.2 44 (by decide)]; exact e27
        have hp45 : pm_w1 V37 := (pm_w1.fr hp8 (hF40.2 16 (by decide)) (hF40.2 48 (by decide)) (hF40.2 49 (by decide)) (hF40.1 110 (by decide) (by decide)) (hF40.1 111 (by decide) (by decide)))
        have hp46 : pm_h1 V37 := (pm_h1.fr hp9 (hF40.2 16 (by decide)) (hF40.1 97 (by decide) (by decide)))
        exact pm_vret hC hR ⟨rfl, hV39, hF42, hg41⟩ dX12_takesSurer_84
    · skip
      refine pm_lload_n hC 1 dX12_takesSurer_23 rfl ?_
      refine pm_aload_n hC 0 (by decide) dX12_takesSurer_24 rfl ?_
      have e47 : V2 90 50 = 112 := hV4.one 90 50 (by decide) (by decide) rfl
      refine pm_getf (v := 112) hC 90 fl_X12_76 rfl rfl (by decide) rfl e47 dX12_takesSurer_25 ?_
      refine pm_iload hC 4 dX12_takesSurer_28 rfl ?_
      obtain ⟨y48, e49⟩ : ∃ y, V2 112 (x16 : Int).toNat = y := ⟨_, rfl⟩
      have b50 := hV4.get 112 (x16 : Int).toNat (lo := 0) (hi := 80000000) (t := 0) (by decide) (show _ < 9 by omega) rfl
      rw [e49] at b50
      refine pm_laload (len := 9) (v := y48) hC 112 rfl rfl (by decide) ⟨by omega, by omega⟩ (by decide) e49 dX12_takesSurer_30 ?_
      refine pm_mmaxL hC 7075 4169 1018 4170 ⟨by omega, by omega⟩ ⟨by omega, by omega⟩ (by decide) wL_X12_350 wS_mmaxL wI_math wC_mmaxL (Nat.le_of_ble_eq_true rfl) dX12_takesSurer_31 (fun y51 b52 => ?_)
      replace b52 : 0 ≤ y51 ∧ y51 ≤ 80000000 ∧ x10 ≤ y51 ∧ y48 ≤ y51 := ⟨by omega, by omega, b52.1, b52.2.1⟩
      refine pm_lstore_n (lv' := [(1, (1, y51)), (0, (3, 90)), (3, (1, x12)), (5, (1, x14)), (7, (0, x16))]) hC dX12_takesSurer_34 (by decide) rfl ?_
      refine pm_lload_n hC 2 dX12_takesSurer_35 rfl ?_
      refine pm_aload_n hC 1 (by decide) dX12_takesSurer_36 rfl ?_
      refine pm_getf (v := 112) hC 90 fl_X12_76 rfl rfl (by decide) rfl e47 dX12_takesSurer_37 ?_
      refine pm_iload hC 4 dX12_takesSurer_40 rfl ?_
      refine pm_laload (len := 9) (v := y48) hC 112 rfl rfl (by decide) ⟨by omega, by omega⟩ (by decide) e49 dX12_takesSurer_42 ?_
      refine pm_ladd hC dX12_takesSurer_43 ?_
      refine pm_someL hC (fun y53 b54 => ?_)
      have b54 := And.intro b54.1 b54.2
      refine pm_lstore_n (lv' := [(3, (1, y53)), (1, (1, y51)), (0, (3, 90)), (5, (1, x14)), (7, (0, x16))]) hC dX12_takesSurer_44 (by decide) rfl ?_
      refine pm_lload hC 3 dX12_takesSurer_45 rfl ?_
      refine pm_aload_n hC 2 (by decide) dX12_takesSurer_47 rfl ?_
      have e55 : V2 90 40 = 110 := hV4.one 90 40 (by decide) (by decide) rfl
      refine pm_getf (v := 110) hC 90 fl_X12_70 rfl rfl (by decide) rfl e55 dX12_takesSurer_48 ?_
      refine pm_iload hC 4 dX12_takesSurer_51 rfl ?_
      obtain ⟨y56, e57⟩ : ∃ y, V2 110 (x16 : Int).toNat = y := ⟨_, rfl⟩
      have b58 := hV4.get 110 (x16 : Int).toNat (lo := 0) (hi := 1539) (t := 0) (by decide) (show _ < 9 by omega) rfl
      rw [e57] at b58
      refine pm_iaload (len := 9) (v := y56) hC 110 rfl rfl (by decide) ⟨by omega, by omega⟩ (by decide) e57 dX12_takesSurer_53 ?_
      refine pm_i2l hC ⟨by omega, by omega⟩ dX12_takesSurer_54 ?_
      refine pm_mmaxL hC 7075 4169 1018 4170 ⟨by omega, by omega⟩ ⟨by omega, by omega⟩ (by decide) wL_X12_350 wS_mmaxL wI_math wC_mmaxL (Nat.le_of_ble_eq_true rfl) dX12_takesSurer_55 (fun y59 b60 => ?_)
      replace b60 : 0 ≤ y59 ∧ y59 ≤ 1539 ∧ x14 ≤ y59 ∧ y56 ≤ y59 := ⟨by omega, by omega, b60.1, b60.2.1⟩
      refine pm_lstore (lv' := [(5, (1, y59)), (3, (1, y53)), (1, (1, y51)), (0, (3, 90)), (7, (0, x16))]) hC dX12_takesSurer_58 (by decide) rfl ?_
      obtain ⟨x61, ei62⟩ : ∃ y : Int, x16 + 1 = y := ⟨_, rfl⟩
      refine pm_iinc (y := x61) (lv' := [(7, (0, x61)), (5, (1, y59)), (3, (1, y53)), (1, (1, y51)), (0, (3, 90))]) hC 4 dX12_takesSurer_60 (by decide) rfl ei62 rfl ?_
      refine pm_goto (tgt := 14) hC dX12_takesSurer_63 (by decide) ?_
      refine pm_lvsub [4, 3, 2, 1, 0] (lv' := [(0, (3, 90)), (1, (1, y51)), (3, (1, y53)), (5, (1, y59)), (7, (0, x61))]) rfl ?_
      exact ih21 _ (by omega) y51 y53 y59 x61 ⟨by omega, by omega⟩ ⟨by omega, by omega⟩ ⟨by omega, by omega⟩ ⟨by omega, by omega⟩ rfl
  refine pm_lvsub [4, 3, 2, 1, 0] (lv' := [(0, (3, 90)), (1, (1, 0)), (3, (1, 0)), (5, (1, 0)), (7, (0, 0))]) rfl ?_
  exact L18 _ 0 0 0 0 ⟨by decide, by decide⟩ ⟨by decide, by decide⟩ ⟨by decide, by decide⟩ ⟨by decide, by decide⟩ rfl
set_option maxHeartbeats 4000000 in
set_option maxRecDepth 100000 in
theorem B_X12_takesBetween  : pm_K 2 yX12_takesBetween cX12_takesBetween 6 none (fun av V => av = [(3, 90)] ∧ pm_oq pm_qB V ∧ (1 ≤ V 90 42 ∧ V 90 42 ≤ 171) ∧ (1 ≤ V 90 43 ∧ V 90 43 ≤ 171) ∧ pm_w1 V) (fun _ V r V' => r = none ∧ pm_oq pm_qB V' ∧ pm_fs [112] [] V V' ∧ pm_pos V') := by
  refine pm_MT.of (by decide) ⟨Nat.le_refl _, by decide⟩ (fun av V h => by rw [h.1]; exact (by decide : pm_words [(3, 0)] ≤ 6)) ?_
  rintro X av V0 hC - hR ⟨rfl, hV0, hq0, hq1, hn_pm_w1⟩
  change pm_J X 0 [(0, (3, 90))] [] 118 V0
  obtain ⟨z0, ez0⟩ : ∃ z, V0 90 42 = z := ⟨_, rfl⟩
  rw [ez0] at hq0
  obtain ⟨z1, ez1⟩ : ∃ z, V0 90 43 = z := ⟨_, rfl⟩
  rw [ez1] at hq1
  obtain ⟨y1, e2⟩ : ∃ y, V0 90 16 = y := ⟨_, rfl⟩
  have b3 := hV0.get 90 16 (lo := 2) (hi := 9) (by decide) (by decide) rfl
  rw [e2] at b3
  refine pm_aload_n hC 0 (by decide) dX12_takesBetween_0 rfl ?_
  refine pm_aload_n hC 0 (by decide) dX12_takesBetween_1 rfl ?_
  obtain ⟨y4, e5⟩ : ∃ y, V0 90 48 = y := ⟨_, rfl⟩
  have b6 := hV0.get 90 48 (lo := 0) (hi := 8) (by decide) (by decide) rfl
  rw [e5] at b6
  refine pm_getf (v := y4) hC 90 fl_X12_305 rfl rfl (by decide) rfl e5 dX12_takesBetween_2 ?_
  refine pm_callV (ci := 12) (as := [(0, y4)]) (st := []) hC 90 (B_X12_x y4 ⟨by omega, by omega⟩) lm_X12_335 li_X12_x (by decide) (by decide) rfl rfl rfl (by decide) rfl rfl (Nat.le_of_ble_eq_true rfl) ⟨Nat.le_refl _, Or.inl rfl⟩ dX12_takesBetween_5 ⟨rfl, hV0⟩ (fun r7 V8 hp9 => ?_)
  obtain ⟨y10, rfl, b11, rfl⟩ := hp9
  change pm_J X 8 [(0, (3, 90))] [(0, y10)] 118 V0
  refine pm_aload_n hC 0 (by decide) dX12_takesBetween_8 rfl ?_
  refine pm_getf (v := z1) hC 90 fl_X12_320 rfl rfl (by decide) rfl ez1 dX12_takesBetween_9 ?_
  refine pm_imul hC dX12_takesBetween_12 ?_
  have b13 : 0 ≤ (y10 * z1) ∧ (y10 * z1) ≤ 16929 := pm_mulb (by omega) (by omega) (show y10 ≤ 99 by omega) (show z1 ≤ 171 by omega) (by decide)
  generalize (y10 * z1) = y12 at b13 ⊢
  refine pm_aload_n hC 0 (by decide) dX12_takesBetween_13 rfl ?_
  refine pm_aload_n hC 0 (by decide) dX12_takesBetween_14 rfl ?_
  obtain ⟨y14, e15⟩ : ∃ y, V0 90 49 = y := ⟨_, rfl⟩
  have b16 := hV0.get 90 49 (lo := 0) (hi := 8) (by decide) (by decide) rfl
  rw [e15] at b16
  refine pm_getf (v := y14) hC 90 fl_X12_308 rfl rfl (by decide) rfl e15 dX12_takesBetween_15 ?_
  refine pm_callV (ci := 12) (as := [(0, y14)]) (st := [(0, y12)]) hC 90 (B_X12_x y14 ⟨by omega, by omega⟩) lm_X12_335 li_X12_x (by decide) (by decide) rfl rfl rfl (by decide) rfl rfl (Nat.le_of_ble_eq_true rfl) ⟨Nat.le_refl _, Or.inl rfl⟩ dX12_takesBetween_18 ⟨rfl, hV0⟩ (fun r17 V18 hp19 => ?_)
  obtain ⟨y20, rfl, b21, rfl⟩ := hp19
  change pm_J X 21 [(0, (3, 90))] [(0, y20), (0, y12)] 118 V0
  refine pm_aload_n hC 0 (by decide) dX12_takesBetween_21 rfl ?_
  refine pm_getf (v := z0) hC 90 fl_X12_317 rfl rfl (by decide) rfl ez0 dX12_takesBetween_22 ?_
  refine pm_imul hC dX12_takesBetween_25 ?_
  have b23 : 0 ≤ (y20 * z0) ∧ (y20 * z0) ≤ 16929 := pm_mulb (by omega) (by omega) (show y20 ≤ 99 by omega) (show z0 ≤ 171 by omega) (by decide)
  generalize (y20 * z0) = y22 at b23 ⊢
  refine pm_iadd hC dX12_takesBetween_26 ?_
  refine pm_aload_n hC 0 (by decide) dX12_takesBetween_27 rfl ?_
  refine pm_getf (v := z0) hC 90 fl_X12_317 rfl rfl (by decide) rfl ez0 dX12_takesBetween_28 ?_
  refine pm_aload_n hC 0 (by decide) dX12_takesBetween_31 rfl ?_
  refine pm_getf (v := z1) hC 90 fl_X12_320 rfl rfl (by decide) rfl ez1 dX12_takesBetween_32 ?_
  refine pm_iadd hC dX12_takesBetween_35 ?_
  refine pm_idiv hC ⟨by omega, by omega, by omega⟩ ⟨by omega, by omega, by omega⟩ dX12_takesBetween_36 ?_
  have b25 := pm_divb (x := (y12 + y22)) (y := (z0 + z1)) (by omega) (by omega)
  generalize ((y12 + y22) / (z0 + z1)) = y24 at b25 ⊢
  refine pm_istore_n (lv' := [(1, (0, y24)), (0, (3, 90))]) hC dX12_takesBetween_37 (by decide) rfl ?_
  refine pm_iconst (v := 0) hC dX12_takesBetween_38 ?_
  refine pm_istore_n (lv' := [(2, (0, 0)), (1, (0, y24)), (0, (3, 90))]) hC dX12_takesBetween_39 (by decide) rfl ?_
  refine pm_sipush (v := 1000) hC dX12_takesBetween_40 (by decide) ?_
  refine pm_istore_n (lv' := [(3, (0, 1000)), (2, (0, 0)), (1, (0, y24)), (0, (3, 90))]) hC dX12_takesBetween_43 (by decide) rfl ?_
  refine pm_iconst (v := 0) hC dX12_takesBetween_44 ?_
  refine pm_istore (lv' := [(4, (0, 0)), (3, (0, 1000)), (2, (0, 0)), (1, (0, y24)), (0, (3, 90))]) hC dX12_takesBetween_45 (by decide) rfl ?_
  have L34 : ∀ (N36 : Nat) (x26 : Int) (x28 : Int) (x30 : Int), (0 ≤ x26 ∧ x26 ≤ 8) → (0 ≤ x28 ∧ x28 ≤ 1000) → (0 ≤ x30 ∧ x30 ≤ 9) → (x26 = 0 ∨ x26 < x30) → (x30 ≤ V0 90 16) → (Int.toNat (9 - x30)) = N36 → pm_J X 47 [(0, (3, 90)), (1, (0, y24)), (2, (0, x26)), (3, (0, x28)), (4, (0, x30))] [] 118 V0 := by
    intro N36
    induction N36 using Nat.strongRecOn with
    | _ N36 ih37 =>
    intro x26 x28 x30 b27 b29 b31 b32 b33 hm35
    refine pm_iload hC 4 dX12_takesBetween_47 rfl ?_
    refine pm_aload_n hC 0 (by decide) dX12_takesBetween_49 rfl ?_
    refine pm_getf (v := y1) hC 90 fl_X12_220 rfl rfl (by decide) rfl e2 dX12_takesBetween_50 ?_
    refine pm_icmp_ge (tgt := 109) hC ⟨by omega, by omega⟩ ⟨by omega, by omega⟩ dX12_takesBetween_53 (by decide) (fun c38 => ?_) (fun c38 => ?_)
    · skip
      refine pm_iconst (v := 0) hC dX12_takesBetween_109 ?_
      refine pm_istore (lv' := [(4, (0, 0)), (0, (3, 90)), (1, (0, y24)), (2, (0, x26)), (3, (0, x28))]) hC dX12_takesBetween_110 (by decide) rfl ?_
      have L51 : ∀ (N53 : Nat) (x39 : Int) (V41 : pm_M), (0 ≤ x39 ∧ x39 ≤ 9) → pm_oq pm_qB V41 → pm_fs [112] [] V0 V41 → V41 90 42 = z0 → V41 90 43 = z1 → V41 90 16 = y1 → V41 90 48 = y4 → V41 90 49 = y14 → pm_w1 V41 → (x26 < x39 → 1 ≤ V41 112 (x26).toNat) → (Int.toNat (9 - x39)) = N53 → pm_J X 112 [(0, (3, 90)), (1, (0, y24)), (2, (0, x26)), (3, (0, x28)), (4, (0, x39))] [] 118 V41 := by
        intro N53
        induction N53 using Nat.strongRecOn with
        | _ N53 ih54 =>
        intro x39 V41 b40 hV42 hF43 e44 e45 e46 e47 e48 hp49 hx50 hm52
        refine pm_iload hC 4 dX12_takesBetween_112 rfl ?_
        refine pm_aload_n hC 0 (by decide) dX12_takesBetween_114 rfl ?_
        refine pm_getf (v := y1) hC 90 fl_X12_220 rfl rfl (by decide) rfl e46 dX12_takesBetween_115 ?_
        refine pm_icmp_ge (tgt := 145) hC ⟨by omega, by omega⟩ ⟨by omega, by omega⟩ dX12_takesBetween_118 (by decide) (fun c55 => ?_) (fun c55 => ?_)
        · skip
          exact pm_vret hC hR ⟨rfl, hV42, hF43, ⟨(x26).toNat, by rw [e46]; omega, hx50 (by omega)⟩⟩ dX12_takesBetween_145
        · skip
          refine pm_aload_n hC 0 (by decide) dX12_takesBetween_121 rfl ?_
          have e56 : V41 90 50 = 112 := hV42.one 90 50 (by decide) (by decide) rfl
          refine pm_getf (v := 112) hC 90 fl_X12_76 rfl rfl (by decide) rfl e56 dX12_takesBetween_122 ?_
          refine pm_iload hC 4 dX12_takesBetween_125 rfl ?_
          refine pm_iload hC 4 dX12_takesBetween_127 rfl ?_
          refine pm_iload_n hC 2 dX12_takesBetween_129 rfl ?_
          refine pm_icmp_ne (tgt := 137) hC ⟨by omega, by omega⟩ ⟨by omega, by omega⟩ dX12_takesBetween_130 (by decide) (fun c57 => ?_) (fun c57 => ?_)
          · skip
            refine pm_lconst (x := 0) hC dX12_takesBetween_137 rfl ?_
            refine pm_lastore (len := 9) hC 112 rfl rfl (by decide) ⟨by omega, by omega⟩ (by decide) dX12_takesBetween_138 ?_
            obtain ⟨x58, ei59⟩ : ∃ y : Int, x39 + 1 = y := ⟨_, rfl⟩
            refine pm_iinc (y := x58) (lv' := [(4, (0, x58)), (0, (3, 90)), (1, (0, y24)), (2, (0, x26)), (3, (0, x28))]) hC 4 dX12_takesBetween_139 (by decide) rfl ei59 rfl ?_
            refine pm_goto (tgt := 112) hC dX12_takesBetween_142 (by decide) ?_
            refine pm_lvsub [1, 2, 3, 4, 0] (lv' := [(0, (3, 90)), (1, (0, y24)), (2, (0, x26)), (3, (0, x28)), (4, (0, x58))]) rfl ?_
            exact ih54 _ (by omega) x58 (pm_up V41 112 (x39 : Int).toNat 0) ⟨by omega, by omega⟩ (hV42.put 112 (x39 : Int).toNat (x := 0) (lo := 0) (hi := 80000000) rfl ⟨by decide, by decide⟩) (hF43.up 112 (x39 : Int).toNat 0 (by decide) rfl) e44 e45 e46 e47 e48 (pm_w1.fr hp49 rfl rfl rfl rfl rfl) (fun h => pm_up_get (V := V41) (k := 112) (i := x39) (a := x26) (x := 0) (p := fun z => 1 ≤ z) (by omega) (by omega) (fun hq => by omega) (fun hne => hx50 (by omega))) rfl
          · skip
            refine pm_lconst (x := 1) hC dX12_takesBetween_133 rfl ?_
            refine pm_goto (tgt := 138) hC dX12_takesBetween_134 (by decide) ?_
            refine pm_lastore (len := 9) hC 112 rfl rfl (by decide) ⟨by omega, by omega⟩ (by decide) dX12_takesBetween_138 ?_
            obtain ⟨x60, ei61⟩ : ∃ y : Int, x39 + 1 = y := ⟨_, rfl⟩
            refine pm_iinc (y := x60) (lv' := [(4, (0, x60)), (0, (3, 90)), (1, (0, y24)), (2, (0, x26)), (3, (0, x28))]) hC 4 dX12_takesBetween_139 (by decide) rfl ei61 rfl ?_
            refine pm_goto (tgt := 112) hC dX12_takesBetween_142 (by decide) ?_
            refine pm_lvsub [1, 2, 3, 4, 0] (lv' := [(0, (3, 90)), (1, (0, y24)), (2, (0, x26)), (3, (0, x28)), (4, (0, x60))]) rfl ?_
            exact ih54 _ (by omega) x60 (pm_up V41 112 (x39 : Int).toNat 1) ⟨by omega, by omega⟩ (hV42.put 112 (x39 : Int).toNat (x := 1) (lo := 0) (hi := 80000000) rfl ⟨by decide, by decide⟩) (hF43.up 112 (x39 : Int).toNat 1 (by decide) rfl) e44 e45 e46 e47 e48 (pm_w1.fr hp49 rfl rfl rfl rfl rfl) (fun h => pm_up_get (V := V41) (k := 112) (i := x39) (a := x26) (x := 1) (p := fun z => 1 ≤ z) (by omega) (by omega) (fun hq => by omega) (fun hne => hx50 (by omega))) rfl
      refine pm_lvsub [1, 2, 3, 4, 0] (lv' := [(0, (3, 90)), (1, (0, y24)), (2, (0, x26)), (3, (0, x28)), (4, (0, 0))]) rfl ?_
      exact L51 _ 0 V0 ⟨by decide, by decide⟩ hV0 (pm_fs.rf (cs := [112]) (fs := []) (V := V0)) ez0 ez1 e2 e5 e15 hn_pm_w1 (fun h => absurd h (by omega)) rfl
    · skip
      refine pm_aload_n hC 0 (by decide) dX12_takesBetween_56 rfl ?_
      refine pm_iload hC 4 dX12_takesBetween_57 rfl ?_
      refine pm_callV (ci := 12) (as := [(0, x30)]) (st := []) hC 90 (B_X12_x x30 ⟨by omega, by omega⟩) lm_X12_335 li_X12_x (by decide) (by decide) rfl rfl rfl (by decide) rfl rfl (Nat.le_of_ble_eq_true rfl) ⟨Nat.le_refl _, Or.inl rfl⟩ dX12_takesBetween_59 ⟨rfl, hV0⟩ (fun r62 V63 hp64 => ?_)
      obtain ⟨y65, rfl, b66, rfl⟩ := hp64
      change pm_J X 62 [(0, (3, 90)), (1, (0, y24)), (2, (0, x26)), (3, (0, x28)), (4, (0, x30))] [(0, y65)] 118 V0
      refine pm_iload_n hC 1 dX12_takesBetween_62 rfl ?_
      refine pm_isub hC dX12_takesBetween_63 ?_
      refine pm_callS (as := [(0, (y65 - y24))]) (st := []) hC (B_X12_far (y65 - y24) ⟨by omega, by omega⟩) lm_X12_338 ls_X12_far (by decide) (by decide) rfl rfl (Nat.le_of_ble_eq_true rfl) ⟨Nat.le_refl _, Or.inl rfl⟩ dX12_takesBetween_64 ⟨rfl, hV0⟩ (fun r67 V68 hp69 => ?_)
      obtain ⟨y70, rfl, b71, rfl⟩ := hp69
      change pm_J X 67 [(0, (3, 90)), (1, (0, y24)), (2, (0, x26)), (3, (0, x28)), (4, (0, x30))] [(0, y70)] 118 V0
      refine pm_aload_n hC 0 (by decide) dX12_takesBetween_67 rfl ?_
      refine pm_iload hC 4 dX12_takesBetween_68 rfl ?_
      refine pm_callV (ci := 12) (as := [(0, x30)]) (st := [(0, y70)]) hC 90 (B_X12_y x30 ⟨by omega, by omega⟩) lm_X12_341 li_X12_y (by decide) (by decide) rfl rfl rfl (by decide) rfl rfl (Nat.le_of_ble_eq_true rfl) ⟨Nat.le_refl _, Or.inl rfl⟩ dX12_takesBetween_70 ⟨rfl, hV0⟩ (fun r72 V73 hp74 => ?_)
      obtain ⟨y75, rfl, b76, rfl⟩ := hp74
      change pm_J X 73 [(0, (3, 90)), (1, (0, y24)), (2, (0, x26)), (3, (0, x28)), (4, (0, x30))] [(0, y75), (0, y70)] 118 V0
      refine pm_aload_n hC 0 (by decide) dX12_takesBetween_73 rfl ?_
      refine pm_aload_n hC 0 (by decide) dX12_takesBetween_74 rfl ?_
      refine pm_getf (v := y4) hC 90 fl_X12_305 rfl rfl (by decide) rfl e5 dX12_takesBetween_75 ?_
      refine pm_callV (ci := 12) (as := [(0, y4)]) (st := [(0, y75), (0, y70)]) hC 90 (B_X12_y y4 ⟨by omega, by omega⟩) lm_X12_341 li_X12_y (by decide) (by decide) rfl rfl rfl (by decide) rfl rfl (Nat.le_of_ble_eq_true rfl) ⟨Nat.le_refl _, Or.inl rfl⟩ dX12_takesBetween_78 ⟨rfl, hV0⟩ (fun r77 V78 hp79 => ?_)
      obtain ⟨y80, rfl, b81, rfl⟩ := hp79
      change pm_J X 81 [(0, (3, 90)), (1, (0, y24)), (2, (0, x26)), (3, (0, x28)), (4, (0, x30))] [(0, y80), (0, y75), (0, y70)] 118 V0
      refine pm_isub hC dX12_takesBetween_81 ?_
      refine pm_callS (as := [(0, (y75 - y80))]) (st := [(0, y70)]) hC (B_X12_far (y75 - y80) ⟨by omega, by omega⟩) lm_X12_338 ls_X12_far (by decide) (by decide) rfl rfl (Nat.le_of_ble_eq_true rfl) ⟨Nat.le_refl _, Or.inl rfl⟩ dX12_takesBetween_82 ⟨rfl, hV0⟩ (fun r82 V83 hp84 => ?_)
      obtain ⟨y85, rfl, b86, rfl⟩ := hp84
      change pm_J X 85 [(0, (3, 90)), (1, (0, y24)), (2, (0, x26)), (3, (0, x28)), (4, (0, x30))] [(0, y85), (0, y70)] 118 V0
      refine pm_iadd hC dX12_takesBetween_85 ?_
      refine pm_istore (lv' := [(5, (0, (y70 + y85))), (0, (3, 90)), (1, (0, y24)), (2, (0, x26)), (3, (0, x28)), (4, (0, x30))]) hC dX12_takesBetween_86 (by decide) rfl ?_
      refine pm_iload hC 0 dX12_takesBetween_88 rfl ?_
      refine pm_iload_n hC 4 dX12_takesBetween_90 rfl ?_
      refine pm_icmp_lt (tgt := 97) hC ⟨by omega, by omega⟩ ⟨by omega, by omega⟩ dX12_takesBetween_91 (by decide) (fun c87 => ?_) (fun c87 => ?_)
      · skip
        refine pm_iload hC 0 dX12_takesBetween_97 rfl ?_
        refine pm_istore_n (lv' := [(3, (0, (y70 + y85))), (5, (0, (y70 + y85))), (0, (3, 90)), (1, (0, y24)), (2, (0, x26)), (4, (0, x30))]) hC dX12_takesBetween_99 (by decide) rfl ?_
        refine pm_iload hC 5 dX12_takesBetween_100 rfl ?_
        refine pm_istore_n (lv' := [(2, (0, x30)), (3, (0, (y70 + y85))), (5, (0, (y70 + y85))), (0, (3, 90)), (1, (0, y24)), (4, (0, x30))]) hC dX12_takesBetween_102 (by decide) rfl ?_
        obtain ⟨x88, ei89⟩ : ∃ y : Int, x30 + 1 = y := ⟨_, rfl⟩
        refine pm_iinc (y := x88) (lv' := [(4, (0, x88)), (2, (0, x30)), (3, (0, (y70 + y85))), (5, (0, (y70 + y85))), (0, (3, 90)), (1, (0, y24))]) hC 5 dX12_takesBetween_103 (by decide) rfl ei89 rfl ?_
        refine pm_goto (tgt := 47) hC dX12_takesBetween_106 (by decide) ?_
        refine pm_lvsub [4, 5, 1, 2, 0] (lv' := [(0, (3, 90)), (1, (0, y24)), (2, (0, x30)), (3, (0, (y70 + y85))), (4, (0, x88))]) rfl ?_
        exact ih37 _ (by omega) x30 (y70 + y85) x88 ⟨by omega, by omega⟩ ⟨by omega, by omega⟩ ⟨by omega, by omega⟩ (by omega) (by omega) rfl
      · skip
        refine pm_goto (tgt := 103) hC dX12_takesBetween_94 (by decide) ?_
        obtain ⟨x90, ei91⟩ : ∃ y : Int, x30 + 1 = y := ⟨_, rfl⟩
        refine pm_iinc (y := x90) (lv' := [(4, (0, x90)), (5, (0, (y70 + y85))), (0, (3, 90)), (1, (0, y24)), (2, (0, x26)), (3, (0, x28))]) hC 5 dX12_takesBetween_103 (by decide) rfl ei91 rfl ?_
        refine pm_goto (tgt := 47) hC dX12_takesBetween_106 (by decide) ?_
        refine pm_lvsub [2, 3, 4, 5, 0] (lv' := [(0, (3, 90)), (1, (0, y24)), (2, (0, x26)), (3, (0, x28)), (4, (0, x90))]) rfl ?_
        exact ih37 _ (by omega) x26 x28 x90 ⟨by omega, by omega⟩ ⟨by omega, by omega⟩ ⟨by omega, by omega⟩ (by omega) (by omega) rfl
  refine pm_lvsub [4, 3, 2, 1, 0] (lv' := [(0, (3, 90)), (1, (0, y24)), (2, (0, 0)), (3, (0, 1000)), (4, (0, 0))]) rfl ?_
  exact L34 _ 0 1000 0 ⟨by decide, by decide⟩ ⟨by decide, by decide⟩ ⟨by decide, by decide⟩ (by omega) (by omega) rfl
