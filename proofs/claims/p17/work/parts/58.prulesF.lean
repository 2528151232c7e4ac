set_option maxHeartbeats 4000000 in
set_option maxRecDepth 100000 in
theorem fC_X2_clear_63  : pm_K 1 yX2_clear cX2_clear 1 none (fun av V => av = [(3, 63)] ∧ pm_ok 0 90 V) (fun _ V r V' => r = none ∧ pm_ok 0 90 V' ∧ pm_fr [63] V V' ∧ F_X2_clear 63 V = (0, V')) := by
  refine pm_MT.of (by decide) ⟨Nat.le_refl _, by decide⟩ (fun av V h => by rw [h.1]; exact (by decide : pm_words [(3, 0)] ≤ 1)) ?_
  rintro X av V0 hC - hR ⟨rfl, hV0⟩
  change pm_J X 0 [(0, (3, 63))] [] 118 V0
  have hT := F_X2_clear_eq 63 V0
  refine pm_aload_n hC 0 (by decide) dX2_clear_0 rfl ?_
  refine pm_iconst (v := 0) hC dX2_clear_1 ?_
  refine pm_putf hC 63 fl_X2_9 rfl rfl rfl (by decide) rfl trivial dX2_clear_2 ?_
  refine pm_aload_n hC 0 (by decide) dX2_clear_5 rfl ?_
  refine pm_iconst (v := 0) hC dX2_clear_6 ?_
  refine pm_putf hC 63 fl_X2_28 rfl rfl rfl (by decide) rfl trivial dX2_clear_7 ?_
  exact pm_vret hC hR ⟨rfl, ((hV0.put 63 0 (x := 0) (lo := 0) (hi := 10) rfl ⟨by decide, by decide⟩).put 63 5 (x := 0) (lo := 0) (hi := 500) rfl ⟨by decide, by decide⟩), (((pm_fr.rf (ws := [63]) (V := V0)).up 63 0 0 rfl).up 63 5 0 rfl), hT⟩ dX2_clear_10
set_option maxHeartbeats 4000000 in
set_option maxRecDepth 100000 in
theorem fC_X3_outcomeOfWord_63  : pm_K 2 yX3_outcomeOfWord cX3_outcomeOfWord 1 (some .int) (fun av V => av = [(3, 72)] ∧ pm_ok 0 90 V ∧ (63 ≤ V 72 1 ∧ V 72 1 ≤ 63)) (fun _ V r V' => ∃ y, r = some (0, y) ∧ ((-1) ≤ y ∧ y ≤ 3) ∧ V = V' ∧ F_X3_outcomeOfWord 63 V = (y, V)) := by
  refine pm_MT.of (by decide) ⟨Nat.le_refl _, by decide⟩ (fun av V h => by rw [h.1]; exact (by decide : pm_words [(3, 0)] ≤ 1)) ?_
  rintro X av V0 hC - hR ⟨rfl, hV0, hq0⟩
  change pm_J X 0 [(0, (3, 72))] [] 118 V0
  have hT := F_X3_outcomeOfWord_eq 63 V0
  obtain ⟨z0, ez0⟩ : ∃ z, V0 72 1 = z := ⟨_, rfl⟩
  rw [ez0] at hq0
  have en0 : V0 72 1 = 63 := by rw [ez0]; omega
  refine pm_aload_n hC 0 (by decide) dX3_outcomeOfWord_0 rfl ?_
  have e1 : V0 72 0 = 3 := hV0.one 72 0 (by decide) (by decide) rfl
  refine pm_getf (v := 3) hC 72 fl_X3_9 rfl rfl (by decide) rfl e1 dX3_outcomeOfWord_1 ?_
  refine pm_ldc2 (v := 440057161060) hC 3106 dX3_outcomeOfWord_4 (by decide +kernel) ?_
  refine pm_callV (ci := 9) (as := [(1, 440057161060)]) (st := []) hC 3 (fC_X9_isWord 440057161060 ⟨by decide, by decide⟩) lm_X3_63 li_X9_isWord (by decide) (by decide) rfl rfl rfl (by decide) rfl rfl (Nat.le_of_ble_eq_true rfl) ⟨Nat.le_refl _, Or.inl rfl⟩ dX3_outcomeOfWord_7 ⟨rfl, hV0⟩ (fun r2 V3 hp4 => ?_)
  obtain ⟨y5, rfl, b6, rfl, hE7⟩ := hp4
  replace hT := hT.trans (pf_call_eq hE7)
  change pm_J X 10 [(0, (3, 72))] [(0, y5)] 118 V0
  refine pm_if_eq (tgt := 15) hC ⟨by omega, by omega⟩ dX3_outcomeOfWord_10 (by decide) (fun c8 => ?_) (fun c8 => ?_)
  · skip
    replace hT := hT.trans (if_pos c8)
    refine pm_aload_n hC 0 (by decide) dX3_outcomeOfWord_15 rfl ?_
    refine pm_getf (v := 3) hC 72 fl_X3_9 rfl rfl (by decide) rfl e1 dX3_outcomeOfWord_16 ?_
    refine pm_ldc2 (v := 418497262196) hC 3107 dX3_outcomeOfWord_19 (by decide +kernel) ?_
    refine pm_callV (ci := 9) (as := [(1, 418497262196)]) (st := []) hC 3 (fC_X9_isWord 418497262196 ⟨by decide, by decide⟩) lm_X3_63 li_X9_isWord (by decide) (by decide) rfl rfl rfl (by decide) rfl rfl (Nat.le_of_ble_eq_true rfl) ⟨Nat.le_refl _, Or.inl rfl⟩ dX3_outcomeOfWord_22 ⟨rfl, hV0⟩ (fun r9 V10 hp11 => ?_)
    obtain ⟨y12, rfl, b13, rfl, hE14⟩ := hp11
    replace hT := hT.trans (pf_call_eq hE14)
    change pm_J X 25 [(0, (3, 72))] [(0, y12)] 118 V0
    refine pm_if_eq (tgt := 30) hC ⟨by omega, by omega⟩ dX3_outcomeOfWord_25 (by decide) (fun c15 => ?_) (fun c15 => ?_)
    · skip
      replace hT := hT.trans (if_pos c15)
      refine pm_aload_n hC 0 (by decide) dX3_outcomeOfWord_30 rfl ?_
      refine pm_getf (v := 3) hC 72 fl_X3_9 rfl rfl (by decide) rfl e1 dX3_outcomeOfWord_31 ?_
      refine pm_ldc2 (v := 448377483876) hC 3108 dX3_outcomeOfWord_34 (by decide +kernel) ?_
      refine pm_callV (ci := 9) (as := [(1, 448377483876)]) (st := []) hC 3 (fC_X9_isWord 448377483876 ⟨by decide, by decide⟩) lm_X3_63 li_X9_isWord (by decide) (by decide) rfl rfl rfl (by decide) rfl rfl (Nat.le_of_ble_eq_true rfl) ⟨Nat.le_refl _, Or.inl rfl⟩ dX3_outcomeOfWord_37 ⟨rfl, hV0⟩ (fun r16 V17 hp18 => ?_)
      obtain ⟨y19, rfl, b20, rfl, hE21⟩ := hp18
      replace hT := hT.trans (pf_call_eq hE21)
      change pm_J X 40 [(0, (3, 72))] [(0, y19)] 118 V0
      refine pm_if_eq (tgt := 45) hC ⟨by omega, by omega⟩ dX3_outcomeOfWord_40 (by decide) (fun c22 => ?_) (fun c22 => ?_)
      · skip
        replace hT := hT.trans (if_pos c22)
        refine pm_aload_n hC 0 (by decide) dX3_outcomeOfWord_45 rfl ?_
        refine pm_getf (v := 3) hC 72 fl_X3_9 rfl rfl (by decide) rfl e1 dX3_outcomeOfWord_46 ?_
        refine pm_ldc2 (v := 1936024942) hC 3109 dX3_outcomeOfWord_49 (by decide +kernel) ?_
        refine pm_callV (ci := 9) (as := [(1, 1936024942)]) (st := []) hC 3 (fC_X9_isWord 1936024942 ⟨by decide, by decide⟩) lm_X3_63 li_X9_isWord (by decide) (by decide) rfl rfl rfl (by decide) rfl rfl (Nat.le_of_ble_eq_true rfl) ⟨Nat.le_refl _, Or.inl rfl⟩ dX3_outcomeOfWord_52 ⟨rfl, hV0⟩ (fun r23 V24 hp25 => ?_)
        obtain ⟨y26, rfl, b27, rfl, hE28⟩ := hp25
        replace hT := hT.trans (pf_call_eq hE28)
        change pm_J X 55 [(0, (3, 72))] [(0, y26)] 118 V0
        refine pm_if_eq (tgt := 62) hC ⟨by omega, by omega⟩ dX3_outcomeOfWord_55 (by decide) (fun c29 => ?_) (fun c29 => ?_)
        · skip
          replace hT := hT.trans (if_pos c29)
          refine pm_iconst (v := (-1)) hC dX3_outcomeOfWord_62 ?_
          exact pm_iret hC hR pm_nar0 ⟨(-1), rfl, ⟨by omega, by omega⟩, rfl, hT⟩ dX3_outcomeOfWord_63
        · skip
          replace hT := hT.trans (if_neg c29)
          refine pm_iconst (v := 3) hC dX3_outcomeOfWord_58 ?_
          refine pm_goto (tgt := 63) hC dX3_outcomeOfWord_59 (by decide) ?_
          exact pm_iret hC hR pm_nar0 ⟨3, rfl, ⟨by omega, by omega⟩, rfl, hT⟩ dX3_outcomeOfWord_63
      · skip
        replace hT := hT.trans (if_neg c22)
        refine pm_iconst (v := 2) hC dX3_outcomeOfWord_43 ?_
        exact pm_iret hC hR pm_nar0 ⟨2, rfl, ⟨by omega, by omega⟩, rfl, hT⟩ dX3_outcomeOfWord_44
    · skip
      replace hT := hT.trans (if_neg c15)
      refine pm_iconst (v := 1) hC dX3_outcomeOfWord_28 ?_
      exact pm_iret hC hR pm_nar0 ⟨1, rfl, ⟨by omega, by omega⟩, rfl, hT⟩ dX3_outcomeOfWord_29
  · skip
    replace hT := hT.trans (if_neg c8)
    refine pm_iconst (v := 0) hC dX3_outcomeOfWord_13 ?_
    exact pm_iret hC hR pm_nar0 ⟨0, rfl, ⟨by omega, by omega⟩, rfl, hT⟩ dX3_outcomeOfWord_14
set_option maxHeartbeats 4000000 in
set_option maxRecDepth 100000 in
theorem fC_X2_beginLine_63 (a1 : Int) (h0 : 0 ≤ a1 ∧ a1 ≤ 3) : pm_K 1 yX2_beginLine cX2_beginLine 2 none (fun av V => av = [(3, 63), (0, a1)] ∧ pm_ok 0 90 V) (fun _ V r V' => r = none ∧ pm_ok 0 90 V' ∧ pm_fr [64, 65] V V' ∧ F_X2_beginLine 63 a1 V = (0, V')) := by
  refine pm_MT.of (by decide) ⟨Nat.le_refl _, by decide⟩ (fun av V h => by rw [h.1]; exact (by decide : pm_words [(3, 0), (0, 0)] ≤ 2)) ?_
  rintro X av V0 hC - hR ⟨rfl, hV0⟩
  change pm_J X 0 [(0, (3, 63)), (1, (0, a1))] [] 118 V0
  have hT := F_X2_beginLine_eq 63 a1 V0
  refine pm_aload_n hC 0 (by decide) dX2_beginLine_0 rfl ?_
  obtain ⟨y1, e2⟩ : ∃ y, V0 63 0 = y := ⟨_, rfl⟩
  have b3 := hV0.get 63 0 (lo := 0) (hi := 10) (by decide) (by decide) rfl
  rw [e2] at b3
  replace hT := hT.trans (pf_let_eq e2)
  refine pm_getf (v := y1) hC 63 fl_X2_9 rfl rfl (by decide) rfl e2 dX2_beginLine_1 ?_
  refine pm_bipush (v := 10) hC dX2_beginLine_4 (by decide) ?_
  refine pm_icmp_ge (tgt := 32) hC ⟨by omega, by omega⟩ ⟨by decide, by decide⟩ dX2_beginLine_6 (by decide) (fun c4 => ?_) (fun c4 => ?_)
  · skip
    replace hT := hT.trans (if_pos c4)
    exact pm_vret hC hR ⟨rfl, hV0, (pm_fr.rf (ws := [64, 65]) (V := V0)), hT⟩ dX2_beginLine_32
  · skip
    replace hT := hT.trans (if_neg (Int.not_le.mpr c4))
    refine pm_aload_n hC 0 (by decide) dX2_beginLine_9 rfl ?_
    have e5 : V0 63 1 = 64 := hV0.one 63 1 (by decide) (by decide) rfl
    refine pm_getf (v := 64) hC 63 fl_X2_15 rfl rfl (by decide) rfl e5 dX2_beginLine_10 ?_
    refine pm_aload_n hC 0 (by decide) dX2_beginLine_13 rfl ?_
    refine pm_getf (v := y1) hC 63 fl_X2_9 rfl rfl (by decide) rfl e2 dX2_beginLine_14 ?_
    refine pm_iload_n hC 1 dX2_beginLine_17 rfl ?_
    refine pm_iastore (len := 10) hC 64 rfl rfl (by decide) ⟨by omega, by omega⟩ (by decide) dX2_beginLine_18 ?_
    refine pm_aload_n hC 0 (by decide) dX2_beginLine_19 rfl ?_
    have e6 : V0 63 2 = 65 := hV0.one 63 2 (by decide) (by decide) rfl
    refine pm_getf (v := 65) hC 63 fl_X2_19 rfl rfl (by decide) rfl e6 dX2_beginLine_20 ?_
    refine pm_aload_n hC 0 (by decide) dX2_beginLine_23 rfl ?_
    refine pm_getf (v := y1) hC 63 fl_X2_9 rfl rfl (by decide) rfl e2 dX2_beginLine_24 ?_
    refine pm_aload_n hC 0 (by decide) dX2_beginLine_27 rfl ?_
    obtain ⟨y7, e8⟩ : ∃ y, V0 63 5 = y := ⟨_, rfl⟩
    have b9 := hV0.get 63 5 (lo := 0) (hi := 500) (by decide) (by decide) rfl
    rw [e8] at b9
    replace hT := hT.trans (pf_let_eq e8)
    refine pm_getf (v := y7) hC 63 fl_X2_28 rfl rfl (by decide) rfl e8 dX2_beginLine_28 ?_
    refine pm_iastore (len := 10) hC 65 rfl rfl (by decide) ⟨by omega, by omega⟩ (by decide) dX2_beginLine_31 ?_
    exact pm_vret hC hR ⟨rfl, ((hV0.put 64 (y1 : Int).toNat (x := a1) (lo := 0) (hi := 3) rfl ⟨by omega, by omega⟩).put 65 (y1 : Int).toNat (x := y7) (lo := 0) (hi := 500) rfl ⟨by omega, by omega⟩), (((pm_fr.rf (ws := [64, 65]) (V := V0)).up 64 (y1 : Int).toNat a1 rfl).up 65 (y1 : Int).toNat y7 rfl), hT⟩ dX2_beginLine_32
set_option maxHeartbeats 4000000 in
set_option maxRecDepth 100000 in
theorem fC_X3_readHead_63  : pm_K 3 yX3_readHead cX3_readHead 2 (some .boolean) (fun av V => av = [(3, 72)] ∧ pm_ok 0 90 V ∧ (63 ≤ V 72 1 ∧ V 72 1 ≤ 63)) (fun _ V r V' => ∃ y, r = some (0, y) ∧ (0 ≤ y ∧ y ≤ 1) ∧ pm_ok 0 90 V' ∧ pm_fr [3, 64, 65] V V' ∧ F_X3_readHead 63 V = (y, V')) := by
  refine pm_MT.of (by decide) ⟨Nat.le_refl _, by decide⟩ (fun av V h => by rw [h.1]; exact (by decide : pm_words [(3, 0)] ≤ 2)) ?_
  rintro X av V0 hC - hR ⟨rfl, hV0, hq0⟩
  change pm_J X 0 [(0, (3, 72))] [] 118 V0
  have hT := F_X3_readHead_eq 63 V0
  obtain ⟨z0, ez0⟩ : ∃ z, V0 72 1 = z := ⟨_, rfl⟩
  rw [ez0] at hq0
  have en0 : V0 72 1 = 63 := by rw [ez0]; omega
  refine pm_aload_n hC 0 (by decide) dX3_readHead_0 rfl ?_
  have e1 : V0 72 0 = 3 := hV0.one 72 0 (by decide) (by decide) rfl
  refine pm_getf (v := 3) hC 72 fl_X3_9 rfl rfl (by decide) rfl e1 dX3_readHead_1 ?_
  refine pm_ldc2 (v := 1667329132) hC 3099 dX3_readHead_4 (by decide +kernel) ?_
  refine pm_callV (ci := 9) (as := [(1, 1667329132)]) (st := []) hC 3 (fC_X9_isWord 1667329132 ⟨by decide, by decide⟩) lm_X3_63 li_X9_isWord (by decide) (by decide) rfl rfl rfl (by decide) rfl rfl (Nat.le_of_ble_eq_true rfl) ⟨Nat.le_refl _, Or.inl rfl⟩ dX3_readHead_7 ⟨rfl, hV0⟩ (fun r2 V3 hp4 => ?_)
  obtain ⟨y5, rfl, b6, rfl, hE7⟩ := hp4
  replace hT := hT.trans (pf_call_eq hE7)
  change pm_J X 10 [(0, (3, 72))] [(0, y5)] 118 V0
  refine pm_if_eq (tgt := 25) hC ⟨by omega, by omega⟩ dX3_readHead_10 (by decide) (fun c8 => ?_) (fun c8 => ?_)
  · skip
    replace hT := hT.trans (if_pos c8)
    refine pm_iconst (v := 0) hC dX3_readHead_25 ?_
    exact pm_iret hC hR (pm_narZ (by omega)) ⟨0, rfl, ⟨by omega, by omega⟩, hV0, (pm_fr.rf (ws := [3, 64, 65]) (V := V0)), hT⟩ dX3_readHead_26
  · skip
    replace hT := hT.trans (if_neg c8)
    refine pm_aload_n hC 0 (by decide) dX3_readHead_13 rfl ?_
    refine pm_getf (v := 63) hC 72 fl_X3_15 rfl rfl (by decide) rfl en0 dX3_readHead_14 ?_
    obtain ⟨y9, e10⟩ : ∃ y, V0 63 0 = y := ⟨_, rfl⟩
    have b11 := hV0.get 63 0 (lo := 0) (hi := 10) (by decide) (by decide) rfl
    rw [e10] at b11
    replace hT := hT.trans (pf_let_eq e10)
    refine pm_getf (v := y9) hC 63 fl_X3_75 rfl rfl (by decide) rfl e10 dX3_readHead_17 ?_
    refine pm_bipush (v := 10) hC dX3_readHead_20 (by decide) ?_
    refine pm_icmp_lt (tgt := 27) hC ⟨by omega, by omega⟩ ⟨by decide, by decide⟩ dX3_readHead_22 (by decide) (fun c12 => ?_) (fun c12 => ?_)
    · skip
      replace hT := hT.trans (if_pos c12)
      refine pm_aload_n hC 0 (by decide) dX3_readHead_27 rfl ?_
      refine pm_getf (v := 3) hC 72 fl_X3_9 rfl rfl (by decide) rfl e1 dX3_readHead_28 ?_
      refine pm_callV (ci := 9) (as := []) (st := []) hC 3 fC_X9_step lm_X3_43 li_X9_step (by decide) (by decide) rfl rfl rfl (by decide) rfl rfl (Nat.le_of_ble_eq_true rfl) ⟨Nat.le_refl _, Or.inl rfl⟩ dX3_readHead_31 ⟨rfl, hV0⟩ (fun r13 V14 hp15 => ?_)
      obtain ⟨rfl, hV16, hF17, hE18⟩ := hp15
      replace hT := hT.trans (pf_call_eq hE18)
      change pm_J X 34 [(0, (3, 72))] [] 118 V14
      have hF19 := pm_fr.tr (pm_fr.rf (ws := [3, 64, 65]) (V := V0)) hF17 (by decide)
      have e20 : V14 72 1 = 63 := by rw [hF17 72 (by decide)]; exact en0
      have e21 : V14 72 0 = 3 := by rw [hF17 72 (by decide)]; exact e1
      have e22 : V14 63 0 = y9 := by rw [hF17 63 (by decide)]; exact e10
      refine pm_aload_n hC 0 (by decide) dX3_readHead_34 rfl ?_
      have q26 : 63 ≤ V14 72 1 ∧ V14 72 1 ≤ 63 := by (have e : V14 72 1 = 63 := e20); rw [e]; exact ⟨by decide, by decide⟩
      refine pm_callV (ci := 3) (as := []) (st := []) hC 72 fC_X3_outcomeOfWord_63 lm_X3_78 li_X3_outcomeOfWord (by decide) (by decide) rfl rfl rfl (by decide) rfl rfl (Nat.le_of_ble_eq_true rfl) ⟨Nat.le_refl _, Or.inl rfl⟩ dX3_readHead_35 ⟨rfl, hV16, q26⟩ (fun r23 V24 hp25 => ?_)
      obtain ⟨y27, rfl, b28, rfl, hE29⟩ := hp25
      replace hT := hT.trans (pf_call_eq hE29)
      change pm_J X 38 [(0, (3, 72))] [(0, y27)] 118 V14
      refine pm_istore_n (lv' := [(1, (0, y27)), (0, (3, 72))]) hC dX3_readHead_38 (by decide) rfl ?_
      refine pm_iload_n hC 0 dX3_readHead_39 rfl ?_
      refine pm_iconst (v := (-1)) hC dX3_readHead_40 ?_
      refine pm_icmp_ne (tgt := 46) hC ⟨by omega, by omega⟩ ⟨by decide, by decide⟩ dX3_readHead_41 (by decide) (fun c30 => ?_) (fun c30 => ?_)
      · skip
        replace hT := hT.trans (if_pos c30)
        refine pm_aload_n hC 1 (by decide) dX3_readHead_46 rfl ?_
        refine pm_getf (v := 63) hC 72 fl_X3_15 rfl rfl (by decide) rfl e20 dX3_readHead_47 ?_
        refine pm_iload_n hC 0 dX3_readHead_50 rfl ?_
        refine pm_callV (ci := 2) (as := [(0, y27)]) (st := []) hC 63 (fC_X2_beginLine_63 y27 ⟨by omega, by omega⟩) lm_X3_82 li_X2_beginLine (by decide) (by decide) rfl rfl rfl (by decide) rfl rfl (Nat.le_of_ble_eq_true rfl) ⟨Nat.le_refl _, Or.inl rfl⟩ dX3_readHead_51 ⟨rfl, hV16⟩ (fun r31 V32 hp33 => ?_)
        obtain ⟨rfl, hV34, hF35, hE36⟩ := hp33
        replace hT := hT.trans (pf_call_eq hE36)
        change pm_J X 54 [(1, (0, y27)), (0, (3, 72))] [] 118 V32
        have hF37 := pm_fr.tr hF19 hF35 (by decide)
        have e38 : V32 72 1 = 63 := by rw [hF35 72 (by decide)]; exact e20
        have e39 : V32 72 0 = 3 := by rw [hF35 72 (by decide)]; exact e21
        have e40 : V32 63 0 = y9 := by rw [hF35 63 (by decide)]; exact e22
        refine pm_aload_n hC 1 (by decide) dX3_readHead_54 rfl ?_
        refine pm_getf (v := 3) hC 72 fl_X3_9 rfl rfl (by decide) rfl e39 dX3_readHead_55 ?_
        refine pm_callV (ci := 9) (as := []) (st := []) hC 3 fC_X9_step lm_X3_43 li_X9_step (by decide) (by decide) rfl rfl rfl (by decide) rfl rfl (Nat.le_of_ble_eq_true rfl) ⟨Nat.le_refl _, Or.inl rfl⟩ dX3_readHead_58 ⟨rfl, hV34⟩ (fun r41 V42 hp43 => ?_)
        obtain ⟨rfl, hV44, hF45, hE46⟩ := hp43
        replace hT := hT.trans (pf_call_eq hE46)
        change pm_J X 61 [(1, (0, y27)), (0, (3, 72))] [] 118 V42
        have hF47 := pm_fr.tr hF37 hF45 (by decide)
        have e48 : V42 72 1 = 63 := by rw [hF45 72 (by decide)]; exact e38
        have e49 : V42 72 0 = 3 := by rw [hF45 72 (by decide)]; exact e39
        have e50 : V42 63 0 = y9 := by rw [hF45 63 (by decide)]; exact e40
        refine pm_aload_n hC 1 (by decide) dX3_readHead_61 rfl ?_
        refine pm_getf (v := 3) hC 72 fl_X3_9 rfl rfl (by decide) rfl e49 dX3_readHead_62 ?_
        refine pm_ldc2 (v := 26982) hC 3114 dX3_readHead_65 (by decide +kernel) ?_
        refine pm_callV (ci := 9) (as := [(1, 26982)]) (st := []) hC 3 (fC_X9_isWord 26982 ⟨by decide, by decide⟩) lm_X3_63 li_X9_isWord (by decide) (by decide) rfl rfl rfl (by decide) rfl rfl (Nat.le_of_ble_eq_true rfl) ⟨Nat.le_refl _, Or.inl rfl⟩ dX3_readHead_68 ⟨rfl, hV44⟩ (fun r51 V52 hp53 => ?_)
        obtain ⟨y54, rfl, b55, rfl, hE56⟩ := hp53
        replace hT := hT.trans (pf_call_eq hE56)
        change pm_J X 71 [(1, (0, y27)), (0, (3, 72))] [(0, y54)] 118 V42
        exact pm_iret hC hR (pm_narZ (by omega)) ⟨y54, rfl, ⟨by omega, by omega⟩, hV44, hF47, hT⟩ dX3_readHead_71
      · skip
        replace hT := hT.trans (if_neg (fun q => q c30))
        refine pm_iconst (v := 0) hC dX3_readHead_44 ?_
        exact pm_iret hC hR (pm_narZ (by omega)) ⟨0, rfl, ⟨by omega, by omega⟩, hV16, hF19, hT⟩ dX3_readHead_45
    · skip
      replace hT := hT.trans (if_neg (Int.not_lt.mpr c12))
      refine pm_iconst (v := 0) hC dX3_readHead_25 ?_
      exact pm_iret hC hR (pm_narZ (by omega)) ⟨0, rfl, ⟨by omega, by omega⟩, hV0, (pm_fr.rf (ws := [3, 64, 65]) (V := V0)), hT⟩ dX3_readHead_26
set_option maxHeartbeats 4000000 in
set_option maxRecDepth 100000 in
theorem fC_X3_readFactor_63_d1  : pm_K 24 yX3_readFactor cX3_readFactor 3 (some .boolean) (fun av V => av = [(3, 72), (0, 1)] ∧ pm_ok 0 90 V ∧ (63 ≤ V 72 1 ∧ V 72 1 ≤ 63)) (fun _ V r V' => ∃ y, r = some (0, y) ∧ (0 ≤ y ∧ y ≤ 1) ∧ pm_ok 0 90 V' ∧ pm_fr [3, 63, 67] V V' ∧ pf_fac 63 7 V = (y, V')) := by
  refine pm_MT.of (by decide) ⟨Nat.le_refl _, by decide⟩ (fun av V h => by rw [h.1]; exact (by decide : pm_words [(3, 0), (0, 0)] ≤ 3)) ?_
  rintro X av V0 hC - hR ⟨rfl, hV0, hq0⟩
  change pm_J X 0 [(0, (3, 72)), (1, (0, 1))] [] 118 V0
  have hT := F_X3_readFactor_eq 63 (F_X3_readSum 63 (pf_fac 63 6)) V0
  obtain ⟨z0, ez0⟩ : ∃ z, V0 72 1 = z := ⟨_, rfl⟩
  rw [ez0] at hq0
  have en0 : V0 72 1 = 63 := by rw [ez0]; omega
  refine pm_aload_n hC 0 (by decide) dX3_readFactor_0 rfl ?_
  have q4 : 63 ≤ V0 72 1 ∧ V0 72 1 ≤ 63 := by (have e : V0 72 1 = 63 := en0); rw [e]; exact ⟨by decide, by decide⟩
  refine pm_callV (ci := 3) (as := []) (st := []) hC 72 fC_X3_codeOfToken_63 lm_X3_93 li_X3_codeOfToken (by decide) (by decide) rfl rfl rfl (by decide) rfl rfl (Nat.le_of_ble_eq_true rfl) ⟨Nat.le_refl _, Or.inl rfl⟩ dX3_readFactor_1 ⟨rfl, hV0, q4⟩ (fun r1 V2 hp3 => ?_)
  obtain ⟨y5, rfl, b6, rfl, hE7⟩ := hp3
  replace hT := hT.trans (pf_call_eq hE7)
  change pm_J X 4 [(0, (3, 72)), (1, (0, 1))] [(0, y5)] 118 V0
  refine pm_istore_n (lv' := [(2, (0, y5)), (0, (3, 72)), (1, (0, 1))]) hC dX3_readFactor_4 (by decide) rfl ?_
  refine pm_iload_n hC 0 dX3_readFactor_5 rfl ?_
  refine pm_iconst (v := (-1)) hC dX3_readFactor_6 ?_
  refine pm_icmp_eq (tgt := 27) hC ⟨by omega, by omega⟩ ⟨by decide, by decide⟩ dX3_readFactor_7 (by decide) (fun c8 => ?_) (fun c8 => ?_)
  · skip
    replace hT := hT.trans (if_pos c8)
    refine pm_iload_n hC 2 dX3_readFactor_27 rfl ?_
    refine pm_bipush (v := 8) hC dX3_readFactor_28 (by decide) ?_
    refine pm_icmp_ge (tgt := 45) hC ⟨by decide, by decide⟩ ⟨by decide, by decide⟩ dX3_readFactor_30 (by decide) (fun c9 => ?_) (fun c9 => ?_)
    · skip
      exfalso; omega
    · skip
      refine pm_aload_n hC 1 (by decide) dX3_readFactor_33 rfl ?_
      have e10 : V0 72 0 = 3 := hV0.one 72 0 (by decide) (by decide) rfl
      refine pm_getf (v := 3) hC 72 fl_X3_9 rfl rfl (by decide) rfl e10 dX3_readFactor_34 ?_
      refine pm_bipush (v := 40) hC dX3_readFactor_37 (by decide) ?_
      obtain ⟨y11, e12⟩ : ∃ y, V0 3 3 = y := ⟨_, rfl⟩
      have b13 := hV0.get 3 3 (lo := (-9223372036854775808)) (hi := 9223372036854775807) (by decide) (by decide) rfl
      rw [e12] at b13
      replace hT := hT.trans (pf_let_eq e12)
      refine pm_callV (ci := 9) (as := [(0, 40)]) (st := []) hC 3 (fC_X9_isSign 40 ⟨by decide, by decide⟩) lm_X3_67 li_X9_isSign (by decide) (by decide) rfl rfl rfl (by decide) rfl rfl (Nat.le_of_ble_eq_true rfl) ⟨Nat.le_refl _, Or.inl rfl⟩ dX3_readFactor_39 ⟨rfl, hV0⟩ (fun r14 V15 hp16 => ?_)
      obtain ⟨y17, rfl, b18, rfl, hE19⟩ := hp16
      replace hT := hT.trans (pf_call_eq hE19)
      change pm_J X 42 [(2, (0, y5)), (0, (3, 72)), (1, (0, 1))] [(0, y17)] 118 V0
      refine pm_if_ne (tgt := 47) hC ⟨by omega, by omega⟩ dX3_readFactor_42 (by decide) (fun c20 => ?_) (fun c20 => ?_)
      · skip
        replace hT := hT.trans (if_pos c20)
        refine pm_aload_n hC 1 (by decide) dX3_readFactor_47 rfl ?_
        refine pm_getf (v := 3) hC 72 fl_X3_9 rfl rfl (by decide) rfl e10 dX3_readFactor_48 ?_
        refine pm_callV (ci := 9) (as := []) (st := []) hC 3 fC_X9_step lm_X3_43 li_X9_step (by decide) (by decide) rfl rfl rfl (by decide) rfl rfl (Nat.le_of_ble_eq_true rfl) ⟨Nat.le_refl _, Or.inl rfl⟩ dX3_readFactor_51 ⟨rfl, hV0⟩ (fun r21 V22 hp23 => ?_)
        obtain ⟨rfl, hV24, hF25, hE26⟩ := hp23
        replace hT := hT.trans (pf_call_eq hE26)
        change pm_J X 54 [(2, (0, y5)), (0, (3, 72)), (1, (0, 1))] [] 118 V22
        have hF27 := pm_fr.tr (pm_fr.rf (ws := [3, 63, 67]) (V := V0)) hF25 (by decide)
        have e28 : V22 72 1 = 63 := by rw [hF25 72 (by decide)]; exact en0
        have e29 : V22 72 0 = 3 := by rw [hF25 72 (by decide)]; exact e10
        refine pm_aload_n hC 1 (by decide) dX3_readFactor_54 rfl ?_
        refine pm_iload_n hC 2 dX3_readFactor_55 rfl ?_
        refine pm_iconst (v := 1) hC dX3_readFactor_56 ?_
        refine pm_iadd hC dX3_readFactor_57 ?_
        change pm_J X 58 [(2, (0, y5)), (0, (3, 72)), (1, (0, 1))] [(0, 2), (3, 72)] 118 V22
        have q33 : 63 ≤ V22 72 1 ∧ V22 72 1 ≤ 63 := by (have e : V22 72 1 = 63 := e28); rw [e]; exact ⟨by decide, by decide⟩
        refine pm_callV (ci := 3) (as := [(0, 2)]) (st := []) hC 72 fC_X3_readSum_63_d2 lm_X3_46 li_X3_readSum (by decide) (by decide) rfl rfl rfl (by decide) rfl rfl (Nat.le_of_ble_eq_true rfl) ⟨Nat.le_refl _, Or.inl rfl⟩ dX3_readFactor_58 ⟨rfl, hV24, q33⟩ (fun r30 V31 hp32 => ?_)
        obtain ⟨y34, rfl, b35, hV36, hF37, hE38⟩ := hp32
        replace hT := hT.trans (pf_call_eq hE38)
        change pm_J X 61 [(2, (0, y5)), (0, (3, 72)), (1, (0, 1))] [(0, y34)] 118 V31
        have hF39 := pm_fr.tr hF27 hF37 (by decide)
        have e40 : V31 72 1 = 63 := by rw [hF37 72 (by decide)]; exact e28
        have e41 : V31 72 0 = 3 := by rw [hF37 72 (by decide)]; exact e29
        refine pm_if_eq (tgt := 76) hC ⟨by omega, by omega⟩ dX3_readFactor_61 (by decide) (fun c42 => ?_) (fun c42 => ?_)
        · skip
          replace hT := hT.trans (if_pos c42)
          refine pm_iconst (v := 0) hC dX3_readFactor_76 ?_
          exact pm_iret hC hR (pm_narZ (by omega)) ⟨0, rfl, ⟨by omega, by omega⟩, hV36, hF39, hT⟩ dX3_readFactor_77
        · skip
          replace hT := hT.trans (if_neg c42)
          refine pm_aload_n hC 1 (by decide) dX3_readFactor_64 rfl ?_
          refine pm_getf (v := 3) hC 72 fl_X3_9 rfl rfl (by decide) rfl e41 dX3_readFactor_65 ?_
          refine pm_bipush (v := 41) hC dX3_readFactor_68 (by decide) ?_
          obtain ⟨y43, e44⟩ : ∃ y, V31 3 3 = y := ⟨_, rfl⟩
          have b45 := hV36.get 3 3 (lo := (-9223372036854775808)) (hi := 9223372036854775807) (by decide) (by decide) rfl
          rw [e44] at b45
          replace hT := hT.trans (pf_let_eq e44)
          refine pm_callV (ci := 9) (as := [(0, 41)]) (st := []) hC 3 (fC_X9_isSign 41 ⟨by decide, by decide⟩) lm_X3_67 li_X9_isSign (by decide) (by decide) rfl rfl rfl (by decide) rfl rfl (Nat.le_of_ble_eq_true rfl) ⟨Nat.le_refl _, Or.inl rfl⟩ dX3_readFactor_70 ⟨rfl, hV36⟩ (fun r46 V47 hp48 => ?_)
          obtain ⟨y49, rfl, b50, rfl, hE51⟩ := hp48
          replace hT := hT.trans (pf_call_eq hE51)
          change pm_J X 73 [(2, (0, y5)), (0, (3, 72)), (1, (0, 1))] [(0, y49)] 118 V31
          refine pm_if_ne (tgt := 78) hC ⟨by omega, by omega⟩ dX3_readFactor_73 (by decide) (fun c52 => ?_) (fun c52 => ?_)
          · skip
            replace hT := hT.trans (if_pos c52)
            refine pm_aload_n hC 1 (by decide) dX3_readFactor_78 rfl ?_
            refine pm_getf (v := 3) hC 72 fl_X3_9 rfl rfl (by decide) rfl e41 dX3_readFactor_79 ?_
            refine pm_callV (ci := 9) (as := []) (st := []) hC 3 fC_X9_step lm_X3_43 li_X9_step (by decide) (by decide) rfl rfl rfl (by decide) rfl rfl (Nat.le_of_ble_eq_true rfl) ⟨Nat.le_refl _, Or.inl rfl⟩ dX3_readFactor_82 ⟨rfl, hV36⟩ (fun r53 V54 hp55 => ?_)
            obtain ⟨rfl, hV56, hF57, hE58⟩ := hp55
            replace hT := hT.trans (pf_call_eq hE58)
            change pm_J X 85 [(2, (0, y5)), (0, (3, 72)), (1, (0, 1))] [] 118 V54
            have hF59 := pm_fr.tr hF39 hF57 (by decide)
            have e60 : V54 72 1 = 63 := by rw [hF57 72 (by decide)]; exact e40
            have e61 : V54 72 0 = 3 := by rw [hF57 72 (by decide)]; exact e41
            refine pm_iconst (v := 1) hC dX3_readFactor_85 ?_
            exact pm_iret hC hR (pm_narZ (by omega)) ⟨1, rfl, ⟨by omega, by omega⟩, hV56, hF59, hT⟩ dX3_readFactor_86
          · skip
            replace hT := hT.trans (if_neg (fun q => q c52))
            refine pm_iconst (v := 0) hC dX3_readFactor_76 ?_
            exact pm_iret hC hR (pm_narZ (by omega)) ⟨0, rfl, ⟨by omega, by omega⟩, hV36, hF39, hT⟩ dX3_readFactor_77
      · skip
        replace hT := hT.trans (if_neg (fun q => q c20))
        refine pm_iconst (v := 0) hC dX3_readFactor_45 ?_
        exact pm_iret hC hR (pm_narZ (by omega)) ⟨0, rfl, ⟨by omega, by omega⟩, hV0, (pm_fr.rf (ws := [3, 63, 67]) (V := V0)), hT⟩ dX3_readFactor_46
  · skip
    replace hT := hT.trans (if_neg c8)
    refine pm_aload_n hC 1 (by decide) dX3_readFactor_10 rfl ?_
    refine pm_getf (v := 63) hC 72 fl_X3_15 rfl rfl (by decide) rfl en0 dX3_readFactor_11 ?_
    refine pm_iload_n hC 0 dX3_readFactor_14 rfl ?_
    refine pm_callV (ci := 2) (as := [(0, y5)]) (st := []) hC 63 (fC_X2_emit_63 y5 ⟨by omega, by omega⟩) lm_X3_57 li_X2_emit (by decide) (by decide) rfl rfl rfl (by decide) rfl rfl (Nat.le_of_ble_eq_true rfl) ⟨Nat.le_refl _, Or.inl rfl⟩ dX3_readFactor_15 ⟨rfl, hV0⟩ (fun r62 V63 hp64 => ?_)
    obtain ⟨rfl, hV65, hF66, hE67⟩ := hp64
    replace hT := hT.trans (pf_call_eq hE67)
    change pm_J X 18 [(2, (0, y5)), (0, (3, 72)), (1, (0, 1))] [] 118 V63
    have hF68 := pm_fr.tr (pm_fr.rf (ws := [3, 63, 67]) (V := V0)) hF66 (by decide)
    have e69 : V63 72 1 = 63 := by rw [hF66 72 (by decide)]; exact en0
    refine pm_aload_n hC 1 (by decide) dX3_readFactor_18 rfl ?_
    have e70 : V63 72 0 = 3 := hV65.one 72 0 (by decide) (by decide) rfl
    refine pm_getf (v := 3) hC 72 fl_X3_9 rfl rfl (by decide) rfl e70 dX3_readFactor_19 ?_
    refine pm_callV (ci := 9) (as := []) (st := []) hC 3 fC_X9_step lm_X3_43 li_X9_step (by decide) (by decide) rfl rfl rfl (by decide) rfl rfl (Nat.le_of_ble_eq_true rfl) ⟨Nat.le_refl _, Or.inl rfl⟩ dX3_readFactor_22 ⟨rfl, hV65⟩ (fun r71 V72 hp73 => ?_)
    obtain ⟨rfl, hV74, hF75, hE76⟩ := hp73
    replace hT := hT.trans (pf_call_eq hE76)
    change pm_J X 25 [(2, (0, y5)), (0, (3, 72)), (1, (0, 1))] [] 118 V72
    have hF77 := pm_fr.tr hF68 hF75 (by decide)
    have e78 : V72 72 1 = 63 := by rw [hF75 72 (by decide)]; exact e69
    have e79 : V72 72 0 = 3 := by rw [hF75 72 (by decide)]; exact e70
    refine pm_iconst (v := 1) hC dX3_readFactor_25 ?_
    exact pm_iret hC hR (pm_narZ (by omega)) ⟨1, rfl, ⟨by omega, by omega⟩, hV74, hF77, hT⟩ dX3_readFactor_26
set_option maxHeartbeats 4000000 in
set_option maxRecDepth 100000 in
theorem fC_X3_readProduct_63_d1  : pm_K 25 yX3_readProduct cX3_readProduct 3 (some .boolean) (fun av V => av = [(3, 72), (0, 1)] ∧ pm_ok 0 90 V ∧ (63 ≤ V 72 1 ∧ V 72 1 ≤ 63)) (fun _ V r V' => ∃ y, r = some (0, y) ∧ (0 ≤ y ∧ y ≤ 1) ∧ pm_ok 0 90 V' ∧ pm_fr [3, 63, 67] V V' ∧ F_X3_readProduct 63 (pf_fac 63 7) V = (y, V')) := by
  refine pm_MT.of (by decide) ⟨Nat.le_refl _, by decide⟩ (fun av V h => by rw [h.1]; exact (by decide : pm_words [(3, 0), (0, 0)] ≤ 3)) ?_
  rintro X av V0 hC - hR ⟨rfl, hV0, hq0⟩
  change pm_J X 0 [(0, (3, 72)), (1, (0, 1))] [] 118 V0
  have hT := F_X3_readProduct_eq 63 (pf_fac 63 7) V0
  obtain ⟨z0, ez0⟩ : ∃ z, V0 72 1 = z := ⟨_, rfl⟩
  rw [ez0] at hq0
  have en0 : V0 72 1 = 63 := by rw [ez0]; omega
  refine pm_aload_n hC 0 (by decide) dX3_readProduct_0 rfl ?_
  refine pm_iload_n hC 1 dX3_readProduct_1 rfl ?_
  have q4 : 63 ≤ V0 72 1 ∧ V0 72 1 ≤ 63 := by (have e : V0 72 1 = 63 := en0); rw [e]; exact ⟨by decide, by decide⟩
  refine pm_callV (ci := 3) (as := [(0, 1)]) (st := []) hC 72 fC_X3_readFactor_63_d1 lm_X3_90 li_X3_readFactor (by decide) (by decide) rfl rfl rfl (by decide) rfl rfl (Nat.le_of_ble_eq_true rfl) ⟨Nat.le_refl _, Or.inl rfl⟩ dX3_readProduct_2 ⟨rfl, hV0, q4⟩ (fun r1 V2 hp3 => ?_)
  obtain ⟨y5, rfl, b6, hV7, hF8, hE9⟩ := hp3
  replace hT := hT.trans (pf_call_eq hE9)
  change pm_J X 5 [(0, (3, 72)), (1, (0, 1))] [(0, y5)] 118 V2
  have hF10 := pm_fr.tr (pm_fr.rf (ws := [3, 63, 67]) (V := V0)) hF8 (by decide)
  have e11 : V2 72 1 = 63 := by rw [hF8 72 (by decide)]; exact en0
  refine pm_if_ne (tgt := 10) hC ⟨by omega, by omega⟩ dX3_readProduct_5 (by decide) (fun c12 => ?_) (fun c12 => ?_)
  · skip
    replace hT := hT.trans (if_pos c12)
    refine pm_iconst (v := 0) hC dX3_readProduct_10 ?_
    refine pm_istore_n (lv' := [(2, (0, 0)), (0, (3, 72)), (1, (0, 1))]) hC dX3_readProduct_11 (by decide) rfl ?_
    obtain ⟨B19, hB20, hT⟩ := pf_loop hT
    have L22 : ∀ (N24 : Nat) (x13 : Int) (V15 : pm_M), (0 ≤ x13 ∧ x13 ≤ 500) → pm_ok 0 90 V15 → pm_fr [3, 63, 67] V0 V15 → V15 72 1 = 63 → F_X3_readProduct 63 (pf_fac 63 7) V0 = pf_val ((0 : Int), V0) B19 (x13, V15) → (Int.toNat (500 - x13)) = N24 → pm_J X 12 [(0, (3, 72)), (1, (0, 1)), (2, (0, x13))] [] 118 V15 := by
      intro N24
      induction N24 using Nat.strongRecOn with
      | _ N24 ih25 =>
      intro x13 V15 b14 hV16 hF17 e18 hT hm23
      have hb21 := congrFun hB20 (x13, V15)
      refine pm_iload_n hC 2 dX3_readProduct_12 rfl ?_
      refine pm_sipush (v := 500) hC dX3_readProduct_13 (by decide) ?_
      refine pm_icmp_ge (tgt := 64) hC ⟨by omega, by omega⟩ ⟨by decide, by decide⟩ dX3_readProduct_16 (by decide) (fun c26 => ?_) (fun c26 => ?_)
      · skip
        replace hb21 := hb21.trans (if_pos c26)
        refine pm_iconst (v := 1) hC dX3_readProduct_64 ?_
        have hT := hT.trans (pf_val_inr hb21)
        exact pm_iret hC hR (pm_narZ (by omega)) ⟨1, rfl, ⟨by omega, by omega⟩, hV16, hF17, hT⟩ dX3_readProduct_65
      · skip
        replace hb21 := hb21.trans (if_neg (Int.not_le.mpr c26))
        refine pm_aload_n hC 0 (by decide) dX3_readProduct_19 rfl ?_
        have e27 : V15 72 0 = 3 := hV16.one 72 0 (by decide) (by decide) rfl
        refine pm_getf (v := 3) hC 72 fl_X3_9 rfl rfl (by decide) rfl e27 dX3_readProduct_20 ?_
        refine pm_bipush (v := 42) hC dX3_readProduct_23 (by decide) ?_
        obtain ⟨y28, e29⟩ : ∃ y, V15 3 3 = y := ⟨_, rfl⟩
        have b30 := hV16.get 3 3 (lo := (-9223372036854775808)) (hi := 9223372036854775807) (by decide) (by decide) rfl
        rw [e29] at b30
        replace hb21 := hb21.trans (pf_let_eq e29)
        refine pm_callV (ci := 9) (as := [(0, 42)]) (st := []) hC 3 (fC_X9_isSign 42 ⟨by decide, by decide⟩) lm_X3_67 li_X9_isSign (by decide) (by decide) rfl rfl rfl (by decide) rfl rfl (Nat.le_of_ble_eq_true rfl) ⟨Nat.le_refl _, Or.inl rfl⟩ dX3_readProduct_25 ⟨rfl, hV16⟩ (fun r31 V32 hp33 => ?_)
        obtain ⟨y34, rfl, b35, rfl, hE36⟩ := hp33
        replace hb21 := hb21.trans (pf_call_eq hE36)
        change pm_J X 28 [(0, (3, 72)), (1, (0, 1)), (2, (0, x13))] [(0, y34)] 118 V15
        refine pm_if_eq (tgt := 64) hC ⟨by omega, by omega⟩ dX3_readProduct_28 (by decide) (fun c37 => ?_) (fun c37 => ?_)
        · skip
          replace hb21 := hb21.trans (if_pos c37)
          refine pm_iconst (v := 1) hC dX3_readProduct_64 ?_
          have hT := hT.trans (pf_val_inr hb21)
          exact pm_iret hC hR (pm_narZ (by omega)) ⟨1, rfl, ⟨by omega, by omega⟩, hV16, hF17, hT⟩ dX3_readProduct_65
        · skip
          replace hb21 := hb21.trans (if_neg c37)
          refine pm_aload_n hC 0 (by decide) dX3_readProduct_31 rfl ?_
          refine pm_getf (v := 3) hC 72 fl_X3_9 rfl rfl (by decide) rfl e27 dX3_readProduct_32 ?_
          refine pm_callV (ci := 9) (as := []) (st := []) hC 3 fC_X9_step lm_X3_43 li_X9_step (by decide) (by decide) rfl rfl rfl (by decide) rfl rfl (Nat.le_of_ble_eq_true rfl) ⟨Nat.le_refl _, Or.inl rfl⟩ dX3_readProduct_35 ⟨rfl, hV16⟩ (fun r38 V39 hp40 => ?_)
          obtain ⟨rfl, hV41, hF42, hE43⟩ := hp40
          replace hb21 := hb21.trans (pf_call_eq hE43)
          change pm_J X 38 [(0, (3, 72)), (1, (0, 1)), (2, (0, x13))] [] 118 V39
          have hF44 := pm_fr.tr hF17 hF42 (by decide)
          have e45 : V39 72 1 = 63 := by rw [hF42 72 (by decide)]; exact e18
          have e46 : V39 72 0 = 3 := by rw [hF42 72 (by decide)]; exact e27
          refine pm_aload_n hC 0 (by decide) dX3_readProduct_38 rfl ?_
          refine pm_iload_n hC 1 dX3_readProduct_39 rfl ?_
          have q50 : 63 ≤ V39 72 1 ∧ V39 72 1 ≤ 63 := by (have e : V39 72 1 = 63 := e45); rw [e]; exact ⟨by decide, by decide⟩
          refine pm_callV (ci := 3) (as := [(0, 1)]) (st := []) hC 72 fC_X3_readFactor_63_d1 lm_X3_90 li_X3_readFactor (by decide) (by decide) rfl rfl rfl (by decide) rfl rfl (Nat.le_of_ble_eq_true rfl) ⟨Nat.le_refl _, Or.inl rfl⟩ dX3_readProduct_40 ⟨rfl, hV41, q50⟩ (fun r47 V48 hp49 => ?_)
          obtain ⟨y51, rfl, b52, hV53, hF54, hE55⟩ := hp49
          replace hb21 := hb21.trans (pf_call_eq hE55)
          change pm_J X 43 [(0, (3, 72)), (1, (0, 1)), (2, (0, x13))] [(0, y51)] 118 V48
          have hF56 := pm_fr.tr hF44 hF54 (by decide)
          have e57 : V48 72 1 = 63 := by rw [hF54 72 (by decide)]; exact e45
          have e58 : V48 72 0 = 3 := by rw [hF54 72 (by decide)]; exact e46
          refine pm_if_ne (tgt := 48) hC ⟨by omega, by omega⟩ dX3_readProduct_43 (by decide) (fun c59 => ?_) (fun c59 => ?_)
          · skip
            replace hb21 := hb21.trans (if_pos c59)
            refine pm_aload_n hC 0 (by decide) dX3_readProduct_48 rfl ?_
            refine pm_getf (v := 63) hC 72 fl_X3_15 rfl rfl (by decide) rfl e57 dX3_readProduct_49 ?_
            refine pm_sipush (v := 20042) hC dX3_readProduct_52 (by decide) ?_
            refine pm_callV (ci := 2) (as := [(0, 20042)]) (st := []) hC 63 (fC_X2_emit_63 20042 ⟨by decide, by decide⟩) lm_X3_57 li_X2_emit (by decide) (by decide) rfl rfl rfl (by decide) rfl rfl (Nat.le_of_ble_eq_true rfl) ⟨Nat.le_refl _, Or.inl rfl⟩ dX3_readProduct_55 ⟨rfl, hV53⟩ (fun r60 V61 hp62 => ?_)
            obtain ⟨rfl, hV63, hF64, hE65⟩ := hp62
            replace hb21 := hb21.trans (pf_call_eq hE65)
            change pm_J X 58 [(0, (3, 72)), (1, (0, 1)), (2, (0, x13))] [] 118 V61
            have hF66 := pm_fr.tr hF56 hF64 (by decide)
            have e67 : V61 72 1 = 63 := by rw [hF64 72 (by decide)]; exact e57
            have e68 : V61 72 0 = 3 := by rw [hF64 72 (by decide)]; exact e58
            obtain ⟨x69, ei70⟩ : ∃ y : Int, x13 + 1 = y := ⟨_, rfl⟩
            replace hb21 := hb21.trans (pf_let_eq ei70)
            refine pm_iinc (y := x69) (lv' := [(2, (0, x69)), (0, (3, 72)), (1, (0, 1))]) hC 2 dX3_readProduct_58 (by decide) rfl ei70 rfl ?_
            refine pm_goto (tgt := 12) hC dX3_readProduct_61 (by decide) ?_
            refine pm_lvsub [1, 2, 0] (lv' := [(0, (3, 72)), (1, (0, 1)), (2, (0, x69))]) rfl ?_
            exact ih25 _ (by omega) x69 V61 ⟨by omega, by omega⟩ hV63 hF66 e67 (hT.trans (pf_val_inl hb21)) rfl
          · skip
            replace hb21 := hb21.trans (if_neg (fun q => q c59))
            refine pm_iconst (v := 0) hC dX3_readProduct_46 ?_
            have hT := hT.trans (pf_val_inr hb21)
            exact pm_iret hC hR (pm_narZ (by omega)) ⟨0, rfl, ⟨by omega, by omega⟩, hV53, hF56, hT⟩ dX3_readProduct_47
    refine pm_lvsub [1, 2, 0] (lv' := [(0, (3, 72)), (1, (0, 1)), (2, (0, 0))]) rfl ?_
    exact L22 _ 0 V2 ⟨by decide, by decide⟩ hV7 hF10 e11 hT rfl
  · skip
    replace hT := hT.trans (if_neg (fun q => q c12))
    refine pm_iconst (v := 0) hC dX3_readProduct_8 ?_
    exact pm_iret hC hR (pm_narZ (by omega)) ⟨0, rfl, ⟨by omega, by omega⟩, hV7, hF10, hT⟩ dX3_readProduct_9
set_option maxHeartbeats 4000000 in
set_option maxRecDepth 100000 in
theorem fC_X3_readSum_63_d1  : pm_K 26 yX3_readSum cX3_readSum 4 (some .boolean) (fun av V => av = [(3, 72), (0, 1)] ∧ pm_ok 0 90 V ∧ (63 ≤ V 72 1 ∧ V 72 1 ≤ 63)) (fun _ V r V' => ∃ y, r = some (0, y) ∧ (0 ≤ y ∧ y ≤ 1) ∧ pm_ok 0 90 V' ∧ pm_fr [3, 63, 67] V V' ∧ F_X3_readSum 63 (pf_fac 63 7) V = (y, V')) := by
  refine pm_MT.of (by decide) ⟨Nat.le_refl _, by decide⟩ (fun av V h => by rw [h.1]; exact (by decide : pm_words [(3, 0), (0, 0)] ≤ 4)) ?_
  rintro X av V0 hC - hR ⟨rfl, hV0, hq0⟩
  change pm_J X 0 [(0, (3, 72)), (1, (0, 1))] [] 118 V0
  have hT := F_X3_readSum_eq 63 (pf_fac 63 7) V0
  obtain ⟨z0, ez0⟩ : ∃ z, V0 72 1 = z := ⟨_, rfl⟩
  rw [ez0] at hq0
  have en0 : V0 72 1 = 63 := by rw [ez0]; omega
  refine pm_aload_n hC 0 (by decide) dX3_readSum_0 rfl ?_
  refine pm_iload_n hC 1 dX3_readSum_1 rfl ?_
  have q4 : 63 ≤ V0 72 1 ∧ V0 72 1 ≤ 63 := by (have e : V0 72 1 = 63 := en0); rw [e]; exact ⟨by decide, by decide⟩
  refine pm_callV (ci := 3) (as := [(0, 1)]) (st := []) hC 72 fC_X3_readProduct_63_d1 lm_X3_87 li_X3_readProduct (by decide) (by decide) rfl rfl rfl (by decide) rfl rfl (Nat.le_of_ble_eq_true rfl) ⟨Nat.le_refl _, Or.inl rfl⟩ dX3_readSum_2 ⟨rfl, hV0, q4⟩ (fun r1 V2 hp3 => ?_)
  obtain ⟨y5, rfl, b6, hV7, hF8, hE9⟩ := hp3
  replace hT := hT.trans (pf_call_eq hE9)
  change pm_J X 5 [(0, (3, 72)), (1, (0, 1))] [(0, y5)] 118 V2
  have hF10 := pm_fr.tr (pm_fr.rf (ws := [3, 63, 67]) (V := V0)) hF8 (by decide)
  have e11 : V2 72 1 = 63 := by rw [hF8 72 (by decide)]; exact en0
  refine pm_if_ne (tgt := 10) hC ⟨by omega, by omega⟩ dX3_readSum_5 (by decide) (fun c12 => ?_) (fun c12 => ?_)
  · skip
    replace hT := hT.trans (if_pos c12)
    refine pm_iconst (v := 0) hC dX3_readSum_10 ?_
    refine pm_istore_n (lv' := [(2, (0, 0)), (0, (3, 72)), (1, (0, 1))]) hC dX3_readSum_11 (by decide) rfl ?_
    obtain ⟨B19, hB20, hT⟩ := pf_loop hT
    have L22 : ∀ (N24 : Nat) (x13 : Int) (V15 : pm_M), (0 ≤ x13 ∧ x13 ≤ 500) → pm_ok 0 90 V15 → pm_fr [3, 63, 67] V0 V15 → V15 72 1 = 63 → F_X3_readSum 63 (pf_fac 63 7) V0 = pf_val ((0 : Int), V0) B19 (x13, V15) → (Int.toNat (500 - x13)) = N24 → pm_J X 12 [(0, (3, 72)), (1, (0, 1)), (2, (0, x13))] [] 118 V15 := by
      intro N24
      induction N24 using Nat.strongRecOn with
      | _ N24 ih25 =>
      intro x13 V15 b14 hV16 hF17 e18 hT hm23
      have hb21 := congrFun hB20 (x13, V15)
      refine pm_iload_n hC 2 dX3_readSum_12 rfl ?_
      refine pm_sipush (v := 500) hC dX3_readSum_13 (by decide) ?_
      refine pm_icmp_ge (tgt := 87) hC ⟨by omega, by omega⟩ ⟨by decide, by decide⟩ dX3_readSum_16 (by decide) (fun c26 => ?_) (fun c26 => ?_)
      · skip
        replace hb21 := hb21.trans (if_pos c26)
        refine pm_iconst (v := 1) hC dX3_readSum_87 ?_
        have hT := hT.trans (pf_val_inr hb21)
        exact pm_iret hC hR (pm_narZ (by omega)) ⟨1, rfl, ⟨by omega, by omega⟩, hV16, hF17, hT⟩ dX3_readSum_88
      · skip
        replace hb21 := hb21.trans (if_neg (Int.not_le.mpr c26))
        refine pm_aload_n hC 0 (by decide) dX3_readSum_19 rfl ?_
        have e27 : V15 72 0 = 3 := hV16.one 72 0 (by decide) (by decide) rfl
        refine pm_getf (v := 3) hC 72 fl_X3_9 rfl rfl (by decide) rfl e27 dX3_readSum_20 ?_
        refine pm_bipush (v := 43) hC dX3_readSum_23 (by decide) ?_
        obtain ⟨y28, e29⟩ : ∃ y, V15 3 3 = y := ⟨_, rfl⟩
        have b30 := hV16.get 3 3 (lo := (-9223372036854775808)) (hi := 9223372036854775807) (by decide) (by decide) rfl
        rw [e29] at b30
        replace hb21 := hb21.trans (pf_let_eq e29)
        refine pm_callV (ci := 9) (as := [(0, 43)]) (st := []) hC 3 (fC_X9_isSign 43 ⟨by decide, by decide⟩) lm_X3_67 li_X9_isSign (by decide) (by decide) rfl rfl rfl (by decide) rfl rfl (Nat.le_of_ble_eq_true rfl) ⟨Nat.le_refl _, Or.inl rfl⟩ dX3_readSum_25 ⟨rfl, hV16⟩ (fun r31 V32 hp33 => ?_)
        obtain ⟨y34, rfl, b35, rfl, hE36⟩ := hp33
        replace hb21 := hb21.trans (pf_call_eq hE36)
        change pm_J X 28 [(0, (3, 72)), (1, (0, 1)), (2, (0, x13))] [(0, y34)] 118 V15
        refine pm_if_ne (tgt := 43) hC ⟨by omega, by omega⟩ dX3_readSum_28 (by decide) (fun c37 => ?_) (fun c37 => ?_)
        · skip
          replace hb21 := hb21.trans (if_pos c37)
          refine pm_aload_n hC 0 (by decide) dX3_readSum_43 rfl ?_
          refine pm_getf (v := 3) hC 72 fl_X3_9 rfl rfl (by decide) rfl e27 dX3_readSum_44 ?_
          refine pm_getf (v := y28) hC 3 fl_X3_53 rfl rfl (by decide) rfl e29 dX3_readSum_47 ?_
          refine pm_l2i hC dX3_readSum_50 ?_
          refine pm_istore_n (lv' := [(3, (0, y28)), (0, (3, 72)), (1, (0, 1)), (2, (0, x13))]) hC dX3_readSum_51 (by decide) rfl ?_
          refine pm_aload_n hC 1 (by decide) dX3_readSum_52 rfl ?_
          refine pm_getf (v := 3) hC 72 fl_X3_9 rfl rfl (by decide) rfl e27 dX3_readSum_53 ?_
          refine pm_callV (ci := 9) (as := []) (st := []) hC 3 fC_X9_step lm_X3_43 li_X9_step (by decide) (by decide) rfl rfl rfl (by decide) rfl rfl (Nat.le_of_ble_eq_true rfl) ⟨Nat.le_refl _, Or.inl rfl⟩ dX3_readSum_56 ⟨rfl, hV16⟩ (fun r38 V39 hp40 => ?_)
          obtain ⟨rfl, hV41, hF42, hE43⟩ := hp40
          replace hb21 := hb21.trans (pf_call_eq hE43)
          change pm_J X 59 [(3, (0, y28)), (0, (3, 72)), (1, (0, 1)), (2, (0, x13))] [] 118 V39
          have hF44 := pm_fr.tr hF17 hF42 (by decide)
          have e45 : V39 72 1 = 63 := by rw [hF42 72 (by decide)]; exact e18
          have e46 : V39 72 0 = 3 := by rw [hF42 72 (by decide)]; exact e27
          refine pm_aload_n hC 1 (by decide) dX3_readSum_59 rfl ?_
          refine pm_iload_n hC 2 dX3_readSum_60 rfl ?_
          have q50 : 63 ≤ V39 72 1 ∧ V39 72 1 ≤ 63 := by (have e : V39 72 1 = 63 := e45); rw [e]; exact ⟨by decide, by decide⟩
          refine pm_callV (ci := 3) (as := [(0, 1)]) (st := []) hC 72 fC_X3_readProduct_63_d1 lm_X3_87 li_X3_readProduct (by decide) (by decide) rfl rfl rfl (by decide) rfl rfl (Nat.le_of_ble_eq_true rfl) ⟨Nat.le_refl _, Or.inl rfl⟩ dX3_readSum_61 ⟨rfl, hV41, q50⟩ (fun r47 V48 hp49 => ?_)
          obtain ⟨y51, rfl, b52, hV53, hF54, hE55⟩ := hp49
          replace hb21 := hb21.trans (pf_call_eq hE55)
          change pm_J X 64 [(3, (0, y28)), (0, (3, 72)), (1, (0, 1)), (2, (0, x13))] [(0, y51)] 118 V48
          have hF56 := pm_fr.tr hF44 hF54 (by decide)
          have e57 : V48 72 1 = 63 := by rw [hF54 72 (by decide)]; exact e45
          have e58 : V48 72 0 = 3 := by rw [hF54 72 (by decide)]; exact e46
          refine pm_if_ne (tgt := 69) hC ⟨by omega, by omega⟩ dX3_readSum_64 (by decide) (fun c59 => ?_) (fun c59 => ?_)
          · skip
            replace hb21 := hb21.trans (if_pos c59)
            refine pm_aload_n hC 1 (by decide) dX3_readSum_69 rfl ?_
            refine pm_getf (v := 63) hC 72 fl_X3_15 rfl rfl (by decide) rfl e57 dX3_readSum_70 ?_
            refine pm_sipush (v := 20000) hC dX3_readSum_73 (by decide) ?_
            refine pm_iload_n hC 0 dX3_readSum_76 rfl ?_
            refine pm_iadd hC dX3_readSum_77 ?_
            refine pm_callV (ci := 2) (as := [(0, (20000 + y28))]) (st := []) hC 63 (fC_X2_emit_63 (20000 + y28) ⟨by omega, by omega⟩) lm_X3_57 li_X2_emit (by decide) (by decide) rfl rfl rfl (by decide) rfl rfl (Nat.le_of_ble_eq_true rfl) ⟨Nat.le_refl _, Or.inl rfl⟩ dX3_readSum_78 ⟨rfl, hV53⟩ (fun r60 V61 hp62 => ?_)
            obtain ⟨rfl, hV63, hF64, hE65⟩ := hp62
            replace hb21 := hb21.trans (pf_call_eq hE65)
            change pm_J X 81 [(3, (0, y28)), (0, (3, 72)), (1, (0, 1)), (2, (0, x13))] [] 118 V61
            have hF66 := pm_fr.tr hF56 hF64 (by decide)
            have e67 : V61 72 1 = 63 := by rw [hF64 72 (by decide)]; exact e57
            have e68 : V61 72 0 = 3 := by rw [hF64 72 (by decide)]; exact e58
            obtain ⟨x69, ei70⟩ : ∃ y : Int, x13 + 1 = y := ⟨_, rfl⟩
            replace hb21 := hb21.trans (pf_let_eq ei70)
            refine pm_iinc (y := x69) (lv' := [(2, (0, x69)), (3, (0, y28)), (0, (3, 72)), (1, (0, 1))]) hC 3 dX3_readSum_81 (by decide) rfl ei70 rfl ?_
            refine pm_goto (tgt := 12) hC dX3_readSum_84 (by decide) ?_
            refine pm_lvsub [2, 3, 0] (lv' := [(0, (3, 72)), (1, (0, 1)), (2, (0, x69))]) rfl ?_
            exact ih25 _ (by omega) x69 V61 ⟨by omega, by omega⟩ hV63 hF66 e67 (hT.trans (pf_val_inl hb21)) rfl
          · skip
            replace hb21 := hb21.trans (if_neg (fun q => q c59))
            refine pm_iconst (v := 0) hC dX3_readSum_67 ?_
            have hT := hT.trans (pf_val_inr hb21)
            exact pm_iret hC hR (pm_narZ (by omega)) ⟨0, rfl, ⟨by omega, by omega⟩, hV53, hF56, hT⟩ dX3_readSum_68
        · skip
          replace hb21 := hb21.trans (if_neg (fun q => q c37))
          refine pm_aload_n hC 0 (by decide) dX3_readSum_31 rfl ?_
          refine pm_getf (v := 3) hC 72 fl_X3_9 rfl rfl (by decide) rfl e27 dX3_readSum_32 ?_
          refine pm_bipush (v := 45) hC dX3_readSum_35 (by decide) ?_
          refine pm_callV (ci := 9) (as := [(0, 45)]) (st := []) hC 3 (fC_X9_isSign 45 ⟨by decide, by decide⟩) lm_X3_67 li_X9_isSign (by decide) (by decide) rfl rfl rfl (by decide) rfl rfl (Nat.le_of_ble_eq_true rfl) ⟨Nat.le_refl _, Or.inl rfl⟩ dX3_readSum_37 ⟨rfl, hV16⟩ (fun r71 V72 hp73 => ?_)
          obtain ⟨y74, rfl, b75, rfl, hE76⟩ := hp73
          replace hb21 := hb21.trans (pf_call_eq hE76)
          change pm_J X 40 [(0, (3, 72)), (1, (0, 1)), (2, (0, x13))] [(0, y74)] 118 V15
          refine pm_if_eq (tgt := 87) hC ⟨by omega, by omega⟩ dX3_readSum_40 (by decide) (fun c77 => ?_) (fun c77 => ?_)
          · skip
            replace hb21 := hb21.trans (if_pos c77)
            refine pm_iconst (v := 1) hC dX3_readSum_87 ?_
            have hT := hT.trans (pf_val_inr hb21)
            exact pm_iret hC hR (pm_narZ (by omega)) ⟨1, rfl, ⟨by omega, by omega⟩, hV16, hF17, hT⟩ dX3_readSum_88
          · skip
            replace hb21 := hb21.trans (if_neg c77)
            refine pm_aload_n hC 0 (by decide) dX3_readSum_43 rfl ?_
            refine pm_getf (v := 3) hC 72 fl_X3_9 rfl rfl (by decide) rfl e27 dX3_readSum_44 ?_
            refine pm_getf (v := y28) hC 3 fl_X3_53 rfl rfl (by decide) rfl e29 dX3_readSum_47 ?_
            refine pm_l2i hC dX3_readSum_50 ?_
            refine pm_istore_n (lv' := [(3, (0, y28)), (0, (3, 72)), (1, (0, 1)), (2, (0, x13))]) hC dX3_readSum_51 (by decide) rfl ?_
            refine pm_aload_n hC 1 (by decide) dX3_readSum_52 rfl ?_
            refine pm_getf (v := 3) hC 72 fl_X3_9 rfl rfl (by decide) rfl e27 dX3_readSum_53 ?_
            refine pm_callV (ci := 9) (as := []) (st := []) hC 3 fC_X9_step lm_X3_43 li_X9_step (by decide) (by decide) rfl rfl rfl (by decide) rfl rfl (Nat.le_of_ble_eq_true rfl) ⟨Nat.le_refl _, Or.inl rfl⟩ dX3_readSum_56 ⟨rfl, hV16⟩ (fun r78 V79 hp80 => ?_)
            obtain ⟨rfl, hV81, hF82, hE83⟩ := hp80
            replace hb21 := hb21.trans (pf_call_eq hE83)
            change pm_J X 59 [(3, (0, y28)), (0, (3, 72)), (1, (0, 1)), (2, (0, x13))] [] 118 V79
            have hF84 := pm_fr.tr hF17 hF82 (by decide)
            have e85 : V79 72 1 = 63 := by rw [hF82 72 (by decide)]; exact e18
            have e86 : V79 72 0 = 3 := by rw [hF82 72 (by decide)]; exact e27
            refine pm_aload_n hC 1 (by decide) dX3_readSum_59 rfl ?_
            refine pm_iload_n hC 2 dX3_readSum_60 rfl ?_
            have q90 : 63 ≤ V79 72 1 ∧ V79 72 1 ≤ 63 := by (have e : V79 72 1 = 63 := e85); rw [e]; exact ⟨by decide, by decide⟩
            refine pm_callV (ci := 3) (as := [(0, 1)]) (st := []) hC 72 fC_X3_readProduct_63_d1 lm_X3_87 li_X3_readProduct (by decide) (by decide) rfl rfl rfl (by decide) rfl rfl (Nat.le_of_ble_eq_true rfl) ⟨Nat.le_refl _, Or.inl rfl⟩ dX3_readSum_61 ⟨rfl, hV81, q90⟩ (fun r87 V88 hp89 => ?_)
            obtain ⟨y91, rfl, b92, hV93, hF94, hE95⟩ := hp89
            replace hb21 := hb21.trans (pf_call_eq hE95)
            change pm_J X 64 [(3, (0, y28)), (0, (3, 72)), (1, (0, 1)), (2, (0, x13))] [(0, y91)] 118 V88
            have hF96 := pm_fr.tr hF84 hF94 (by decide)
            have e97 : V88 72 1 = 63 := by rw [hF94 72 (by decide)]; exact e85
            have e98 : V88 72 0 = 3 := by rw [hF94 72 (by decide)]; exact e86
            refine pm_if_ne (tgt := 69) hC ⟨by omega, by omega⟩ dX3_readSum_64 (by decide) (fun c99 => ?_) (fun c99 => ?_)
            · skip
              replace hb21 := hb21.trans (if_pos c99)
              refine pm_aload_n hC 1 (by decide) dX3_readSum_69 rfl ?_
              refine pm_getf (v := 63) hC 72 fl_X3_15 rfl rfl (by decide) rfl e97 dX3_readSum_70 ?_
              refine pm_sipush (v := 20000) hC dX3_readSum_73 (by decide) ?_
              refine pm_iload_n hC 0 dX3_readSum_76 rfl ?_
              refine pm_iadd hC dX3_readSum_77 ?_
              refine pm_callV (ci := 2) (as := [(0, (20000 + y28))]) (st := []) hC 63 (fC_X2_emit_63 (20000 + y28) ⟨by omega, by omega⟩) lm_X3_57 li_X2_emit (by decide) (by decide) rfl rfl rfl (by decide) rfl rfl (Nat.le_of_ble_eq_true rfl) ⟨Nat.le_refl _, Or.inl rfl⟩ dX3_readSum_78 ⟨rfl, hV93⟩ (fun r100 V101 hp102 => ?_)
              obtain ⟨rfl, hV103, hF104, hE105⟩ := hp102
              replace hb21 := hb21.trans (pf_call_eq hE105)
              change pm_J X 81 [(3, (0, y28)), (0, (3, 72)), (1, (0, 1)), (2, (0, x13))] [] 118 V101
              have hF106 := pm_fr.tr hF96 hF104 (by decide)
              have e107 : V101 72 1 = 63 := by rw [hF104 72 (by decide)]; exact e97
              have e108 : V101 72 0 = 3 := by rw [hF104 72 (by decide)]; exact e98
              obtain ⟨x109, ei110⟩ : ∃ y : Int, x13 + 1 = y := ⟨_, rfl⟩
              replace hb21 := hb21.trans (pf_let_eq ei110)
              refine pm_iinc (y := x109) (lv' := [(2, (0, x109)), (3, (0, y28)), (0, (3, 72)), (1, (0, 1))]) hC 3 dX3_readSum_81 (by decide) rfl ei110 rfl ?_
              refine pm_goto (tgt := 12) hC dX3_readSum_84 (by decide) ?_
              refine pm_lvsub [2, 3, 0] (lv' := [(0, (3, 72)), (1, (0, 1)), (2, (0, x109))]) rfl ?_
              exact ih25 _ (by omega) x109 V101 ⟨by omega, by omega⟩ hV103 hF106 e107 (hT.trans (pf_val_inl hb21)) rfl
            · skip
              replace hb21 := hb21.trans (if_neg (fun q => q c99))
              refine pm_iconst (v := 0) hC dX3_readSum_67 ?_
              have hT := hT.trans (pf_val_inr hb21)
              exact pm_iret hC hR (pm_narZ (by omega)) ⟨0, rfl, ⟨by omega, by omega⟩, hV93, hF96, hT⟩ dX3_readSum_68
    refine pm_lvsub [1, 2, 0] (lv' := [(0, (3, 72)), (1, (0, 1)), (2, (0, 0))]) rfl ?_
    exact L22 _ 0 V2 ⟨by decide, by decide⟩ hV7 hF10 e11 hT rfl
  · skip
    replace hT := hT.trans (if_neg (fun q => q c12))
    refine pm_iconst (v := 0) hC dX3_readSum_8 ?_
    exact pm_iret hC hR (pm_narZ (by omega)) ⟨0, rfl, ⟨by omega, by omega⟩, hV7, hF10, hT⟩ dX3_readSum_9
set_option maxHeartbeats 4000000 in
set_option maxRecDepth 100000 in
theorem fC_X3_readFactor_63_d0  : pm_K 27 yX3_readFactor cX3_readFactor 3 (some .boolean) (fun av V => av = [(3, 72), (0, 0)] ∧ pm_ok 0 90 V ∧ (63 ≤ V 72 1 ∧ V 72 1 ≤ 63)) (fun _ V r V' => ∃ y, r = some (0, y) ∧ (0 ≤ y ∧ y ≤ 1) ∧ pm_ok 0 90 V' ∧ pm_fr [3, 63, 67] V V' ∧ pf_fac 63 8 V = (y, V')) := by
  refine pm_MT.of (by decide) ⟨Nat.le_refl _, by decide⟩ (fun av V h => by rw [h.1]; exact (by decide : pm_words [(3, 0), (0, 0)] ≤ 3)) ?_
  rintro X av V0 hC - hR ⟨rfl, hV0, hq0⟩
  change pm_J X 0 [(0, (3, 72)), (1, (0, 0))] [] 118 V0
  have hT := F_X3_readFactor_eq 63 (F_X3_readSum 63 (pf_fac 63 7)) V0
  obtain ⟨z0, ez0⟩ : ∃ z, V0 72 1 = z := ⟨_, rfl⟩
  rw [ez0] at hq0
  have en0 : V0 72 1 = 63 := by rw [ez0]; omega
  refine pm_aload_n hC 0 (by decide) dX3_readFactor_0 rfl ?_
  have q4 : 63 ≤ V0 72 1 ∧ V0 72 1 ≤ 63 := by (have e : V0 72 1 = 63 := en0); rw [e]; exact ⟨by decide, by decide⟩
  refine pm_callV (ci := 3) (as := []) (st := []) hC 72 fC_X3_codeOfToken_63 lm_X3_93 li_X3_codeOfToken (by decide) (by decide) rfl rfl rfl (by decide) rfl rfl (Nat.le_of_ble_eq_true rfl) ⟨Nat.le_refl _, Or.inl rfl⟩ dX3_readFactor_1 ⟨rfl, hV0, q4⟩ (fun r1 V2 hp3 => ?_)
  obtain ⟨y5, rfl, b6, rfl, hE7⟩ := hp3
  replace hT := hT.trans (pf_call_eq hE7)
  change pm_J X 4 [(0, (3, 72)), (1, (0, 0))] [(0, y5)] 118 V0
  refine pm_istore_n (lv' := [(2, (0, y5)), (0, (3, 72)), (1, (0, 0))]) hC dX3_readFactor_4 (by decide) rfl ?_
  refine pm_iload_n hC 0 dX3_readFactor_5 rfl ?_
  refine pm_iconst (v := (-1)) hC dX3_readFactor_6 ?_
  refine pm_icmp_eq (tgt := 27) hC ⟨by omega, by omega⟩ ⟨by decide, by decide⟩ dX3_readFactor_7 (by decide) (fun c8 => ?_) (fun c8 => ?_)
  · skip
    replace hT := hT.trans (if_pos c8)
    refine pm_iload_n hC 2 dX3_readFactor_27 rfl ?_
    refine pm_bipush (v := 8) hC dX3_readFactor_28 (by decide) ?_
    refine pm_icmp_ge (tgt := 45) hC ⟨by decide, by decide⟩ ⟨by decide, by decide⟩ dX3_readFactor_30 (by decide) (fun c9 => ?_) (fun c9 => ?_)
    · skip
      exfalso; omega
    · skip
      refine pm_aload_n hC 1 (by decide) dX3_readFactor_33 rfl ?_
      have e10 : V0 72 0 = 3 := hV0.one 72 0 (by decide) (by decide) rfl
      refine pm_getf (v := 3) hC 72 fl_X3_9 rfl rfl (by decide) rfl e10 dX3_readFactor_34 ?_
      refine pm_bipush (v := 40) hC dX3_readFactor_37 (by decide) ?_
      obtain ⟨y11, e12⟩ : ∃ y, V0 3 3 = y := ⟨_, rfl⟩
      have b13 := hV0.get 3 3 (lo := (-9223372036854775808)) (hi := 9223372036854775807) (by decide) (by decide) rfl
      rw [e12] at b13
      replace hT := hT.trans (pf_let_eq e12)
      refine pm_callV (ci := 9) (as := [(0, 40)]) (st := []) hC 3 (fC_X9_isSign 40 ⟨by decide, by decide⟩) lm_X3_67 li_X9_isSign (by decide) (by decide) rfl rfl rfl (by decide) rfl rfl (Nat.le_of_ble_eq_true rfl) ⟨Nat.le_refl _, Or.inl rfl⟩ dX3_readFactor_39 ⟨rfl, hV0⟩ (fun r14 V15 hp16 => ?_)
      obtain ⟨y17, rfl, b18, rfl, hE19⟩ := hp16
      replace hT := hT.trans (pf_call_eq hE19)
      change pm_J X 42 [(2, (0, y5)), (0, (3, 72)), (1, (0, 0))] [(0, y17)] 118 V0
      refine pm_if_ne (tgt := 47) hC ⟨by omega, by omega⟩ dX3_readFactor_42 (by decide) (fun c20 => ?_) (fun c20 => ?_)
      · skip
        replace hT := hT.trans (if_pos c20)
        refine pm_aload_n hC 1 (by decide) dX3_readFactor_47 rfl ?_
        refine pm_getf (v := 3) hC 72 fl_X3_9 rfl rfl (by decide) rfl e10 dX3_readFactor_48 ?_
        refine pm_callV (ci := 9) (as := []) (st := []) hC 3 fC_X9_step lm_X3_43 li_X9_step (by decide) (by decide) rfl rfl rfl (by decide) rfl rfl (Nat.le_of_ble_eq_true rfl) ⟨Nat.le_refl _, Or.inl rfl⟩ dX3_readFactor_51 ⟨rfl, hV0⟩ (fun r21 V22 hp23 => ?_)
        obtain ⟨rfl, hV24, hF25, hE26⟩ := hp23
        replace hT := hT.trans (pf_call_eq hE26)
        change pm_J X 54 [(2, (0, y5)), (0, (3, 72)), (1, (0, 0))] [] 118 V22
        have hF27 := pm_fr.tr (pm_fr.rf (ws := [3, 63, 67]) (V := V0)) hF25 (by decide)
        have e28 : V22 72 1 = 63 := by rw [hF25 72 (by decide)]; exact en0
        have e29 : V22 72 0 = 3 := by rw [hF25 72 (by decide)]; exact e10
        refine pm_aload_n hC 1 (by decide) dX3_readFactor_54 rfl ?_
        refine pm_iload_n hC 2 dX3_readFactor_55 rfl ?_
        refine pm_iconst (v := 1) hC dX3_readFactor_56 ?_
        refine pm_iadd hC dX3_readFactor_57 ?_
        change pm_J X 58 [(2, (0, y5)), (0, (3, 72)), (1, (0, 0))] [(0, 1), (3, 72)] 118 V22
        have q33 : 63 ≤ V22 72 1 ∧ V22 72 1 ≤ 63 := by (have e : V22 72 1 = 63 := e28); rw [e]; exact ⟨by decide, by decide⟩
        refine pm_callV (ci := 3) (as := [(0, 1)]) (st := []) hC 72 fC_X3_readSum_63_d1 lm_X3_46 li_X3_readSum (by decide) (by decide) rfl rfl rfl (by decide) rfl rfl (Nat.le_of_ble_eq_true rfl) ⟨Nat.le_refl _, Or.inl rfl⟩ dX3_readFactor_58 ⟨rfl, hV24, q33⟩ (fun r30 V31 hp32 => ?_)
        obtain ⟨y34, rfl, b35, hV36, hF37, hE38⟩ := hp32
        replace hT := hT.trans (pf_call_eq hE38)
        change pm_J X 61 [(2, (0, y5)), (0, (3, 72)), (1, (0, 0))] [(0, y34)] 118 V31
        have hF39 := pm_fr.tr hF27 hF37 (by decide)
        have e40 : V31 72 1 = 63 := by rw [hF37 72 (by decide)]; exact e28
        have e41 : V31 72 0 = 3 := by rw [hF37 72 (by decide)]; exact e29
        refine pm_if_eq (tgt := 76) hC ⟨by omega, by omega⟩ dX3_readFactor_61 (by decide) (fun c42 => ?_) (fun c42 => ?_)
        · skip
          replace hT := hT.trans (if_pos c42)
          refine pm_iconst (v := 0) hC dX3_readFactor_76 ?_
          exact pm_iret hC hR (pm_narZ (by omega)) ⟨0, rfl, ⟨by omega, by omega⟩, hV36, hF39, hT⟩ dX3_readFactor_77
        · skip
          replace hT := hT.trans (if_neg c42)
          refine pm_aload_n hC 1 (by decide) dX3_readFactor_64 rfl ?_
          refine pm_getf (v := 3) hC 72 fl_X3_9 rfl rfl (by decide) rfl e41 dX3_readFactor_65 ?_
          refine pm_bipush (v := 41) hC dX3_readFactor_68 (by decide) ?_
          obtain ⟨y43, e44⟩ : ∃ y, V31 3 3 = y := ⟨_, rfl⟩
          have b45 := hV36.get 3 3 (lo := (-9223372036854775808)) (hi := 9223372036854775807) (by decide) (by decide) rfl
          rw [e44] at b45
          replace hT := hT.trans (pf_let_eq e44)
          refine pm_callV (ci := 9) (as := [(0, 41)]) (st := []) hC 3 (fC_X9_isSign 41 ⟨by decide, by decide⟩) lm_X3_67 li_X9_isSign (by decide) (by decide) rfl rfl rfl (by decide) rfl rfl (Nat.le_of_ble_eq_true rfl) ⟨Nat.le_refl _, Or.inl rfl⟩ dX3_readFactor_70 ⟨rfl, hV36⟩ (fun r46 V47 hp48 => ?_)
          obtain ⟨y49, rfl, b50, rfl, hE51⟩ := hp48
          replace hT := hT.trans (pf_call_eq hE51)
          change pm_J X 73 [(2, (0, y5)), (0, (3, 72)), (1, (0, 0))] [(0, y49)] 118 V31
          refine pm_if_ne (tgt := 78) hC ⟨by omega, by omega⟩ dX3_readFactor_73 (by decide) (fun c52 => ?_) (fun c52 => ?_)
          · skip
            replace hT := hT.trans (if_pos c52)
            refine pm_aload_n hC 1 (by decide) dX3_readFactor_78 rfl ?_
            refine pm_getf (v := 3) hC 72 fl_X3_9 rfl rfl (by decide) rfl e41 dX3_readFactor_79 ?_
            refine pm_callV (ci := 9) (as := []) (st := []) hC 3 fC_X9_step lm_X3_43 li_X9_step (by decide) (by decide) rfl rfl rfl (by decide) rfl rfl (Nat.le_of_ble_eq_true rfl) ⟨Nat.le_refl _, Or.inl rfl⟩ dX3_readFactor_82 ⟨rfl, hV36⟩ (fun r53 V54 hp55 => ?_)
            obtain ⟨rfl, hV56, hF57, hE58⟩ := hp55
            replace hT := hT.trans (pf_call_eq hE58)
            change pm_J X 85 [(2, (0, y5)), (0, (3, 72)), (1, (0, 0))] [] 118 V54
            have hF59 := pm_fr.tr hF39 hF57 (by decide)
            have e60 : V54 72 1 = 63 := by rw [hF57 72 (by decide)]; exact e40
            have e61 : V54 72 0 = 3 := by rw [hF57 72 (by decide)]; exact e41
            refine pm_iconst (v := 1) hC dX3_readFactor_85 ?_
            exact pm_iret hC hR (pm_narZ (by omega)) ⟨1, rfl, ⟨by omega, by omega⟩, hV56, hF59, hT⟩ dX3_readFactor_86
          · skip
            replace hT := hT.trans (if_neg (fun q => q c52))
            refine pm_iconst (v := 0) hC dX3_readFactor_76 ?_
            exact pm_iret hC hR (pm_narZ (by omega)) ⟨0, rfl, ⟨by omega, by omega⟩, hV36, hF39, hT⟩ dX3_readFactor_77
      · skip
        replace hT := hT.trans (if_neg (fun q => q c20))
        refine pm_iconst (v := 0) hC dX3_readFactor_45 ?_
        exact pm_iret hC hR (pm_narZ (by omega)) ⟨0, rfl, ⟨by omega, by omega⟩, hV0, (pm_fr.rf (ws := [3, 63, 67]) (V := V0)), hT⟩ dX3_readFactor_46
  · skip
    replace hT := hT.trans (if_neg c8)
    refine pm_aload_n hC 1 (by decide) dX3_readFactor_10 rfl ?_
    refine pm_getf (v := 63) hC 72 fl_X3_15 rfl rfl (by decide) rfl en0 dX3_readFactor_11 ?_
    refine pm_iload_n hC 0 dX3_readFactor_14 rfl ?_
    refine pm_callV (ci := 2) (as := [(0, y5)]) (st := []) hC 63 (fC_X2_emit_63 y5 ⟨by omega, by omega⟩) lm_X3_57 li_X2_emit (by decide) (by decide) rfl rfl rfl (by decide) rfl rfl (Nat.le_of_ble_eq_true rfl) ⟨Nat.le_refl _, Or.inl rfl⟩ dX3_readFactor_15 ⟨rfl, hV0⟩ (fun r62 V63 hp64 => ?_)
    obtain ⟨rfl, hV65, hF66, hE67⟩ := hp64
    replace hT := hT.trans (pf_call_eq hE67)
    change pm_J X 18 [(2, (0, y5)), (0, (3, 72)), (1, (0, 0))] [] 118 V63
    have hF68 := pm_fr.tr (pm_fr.rf (ws := [3, 63, 67]) (V := V0)) hF66 (by decide)
    have e69 : V63 72 1 = 63 := by rw [hF66 72 (by decide)]; exact en0
    refine pm_aload_n hC 1 (by decide) dX3_readFactor_18 rfl ?_
    have e70 : V63 72 0 = 3 := hV65.one 72 0 (by decide) (by decide) rfl
    refine pm_getf (v := 3) hC 72 fl_X3_9 rfl rfl (by decide) rfl e70 dX3_readFactor_19 ?_
    refine pm_callV (ci := 9) (as := []) (st := []) hC 3 fC_X9_step lm_X3_43 li_X9_step (by decide) (by decide) rfl rfl rfl (by decide) rfl rfl (Nat.le_of_ble_eq_true rfl) ⟨Nat.le_refl _, Or.inl rfl⟩ dX3_readFactor_22 ⟨rfl, hV65⟩ (fun r71 V72 hp73 => ?_)
    obtain ⟨rfl, hV74, hF75, hE76⟩ := hp73
    replace hT := hT.trans (pf_call_eq hE76)
    change pm_J X 25 [(2, (0, y5)), (0, (3, 72)), (1, (0, 0))] [] 118 V72
    have hF77 := pm_fr.tr hF68 hF75 (by decide)
    have e78 : V72 72 1 = 63 := by rw [hF75 72 (by decide)]; exact e69
    have e79 : V72 72 0 = 3 := by rw [hF75 72 (by decide)]; exact e70
    refine pm_iconst (v := 1) hC dX3_readFactor_25 ?_
    exact pm_iret hC hR (pm_narZ (by omega)) ⟨1, rfl, ⟨by omega, by omega⟩, hV74, hF77, hT⟩ dX3_readFactor_26
set_option maxHeartbeats 4000000 in
set_option maxRecDepth 100000 in
theorem fC_X3_readProduct_63_d0  : pm_K 28 yX3_readProduct cX3_readProduct 3 (some .boolean) (fun av V => av = [(3, 72), (0, 0)] ∧ pm_ok 0 90 V ∧ (63 ≤ V 72 1 ∧ V 72 1 ≤ 63)) (fun _ V r V' => ∃ y, r = some (0, y) ∧ (0 ≤ y ∧ y ≤ 1) ∧ pm_ok 0 90 V' ∧ pm_fr [3, 63, 67] V V' ∧ F_X3_readProduct 63 (pf_fac 63 8) V = (y, V')) := by
  refine pm_MT.of (by decide) ⟨Nat.le_refl _, by decide⟩ (fun av V h => by rw [h.1]; exact (by decide : pm_words [(3, 0), (0, 0)] ≤ 3)) ?_
  rintro X av V0 hC - hR ⟨rfl, hV0, hq0⟩
  change pm_J X 0 [(0, (3, 72)), (1, (0, 0))] [] 118 V0
  have hT := F_X3_readProduct_eq 63 (pf_fac 63 8) V0
  obtain ⟨z0, ez0⟩ : ∃ z, V0 72 1 = z := ⟨_, rfl⟩
  rw [ez0] at hq0
  have en0 : V0 72 1 = 63 := by rw [ez0]; omega
  refine pm_aload_n hC 0 (by decide) dX3_readProduct_0 rfl ?_
  refine pm_iload_n hC 1 dX3_readProduct_1 rfl ?_
  have q4 : 63 ≤ V0 72 1 ∧ V0 72 1 ≤ 63 := by (have e : V0 72 1 = 63 := en0); rw [e]; exact ⟨by decide, by decide⟩
  refine pm_callV (ci := 3) (as := [(0, 0)]) (st := []) hC 72 fC_X3_readFactor_63_d0 lm_X3_90 li_X3_readFactor (by decide) (by decide) rfl rfl rfl (by decide) rfl rfl (Nat.le_of_ble_eq_true rfl) ⟨Nat.le_refl _, Or.inl rfl⟩ dX3_readProduct_2 ⟨rfl, hV0, q4⟩ (fun r1 V2 hp3 => ?_)
  obtain ⟨y5, rfl, b6, hV7, hF8, hE9⟩ := hp3
  replace hT := hT.trans (pf_call_eq hE9)
  change pm_J X 5 [(0, (3, 72)), (1, (0, 0))] [(0, y5)] 118 V2
  have hF10 := pm_fr.tr (pm_fr.rf (ws := [3, 63, 67]) (V := V0)) hF8 (by decide)
  have e11 : V2 72 1 = 63 := by rw [hF8 72 (by decide)]; exact en0
  refine pm_if_ne (tgt := 10) hC ⟨by omega, by omega⟩ dX3_readProduct_5 (by decide) (fun c12 => ?_) (fun c12 => ?_)
  · skip
    replace hT := hT.trans (if_pos c12)
    refine pm_iconst (v := 0) hC dX3_readProduct_10 ?_
    refine pm_istore_n (lv' := [(2, (0, 0)), (0, (3, 72)), (1, (0, 0))]) hC dX3_readProduct_11 (by decide) rfl ?_
    obtain ⟨B19, hB20, hT⟩ := pf_loop hT
    have L22 : ∀ (N24 : Nat) (x13 : Int) (V15 : pm_M), (0 ≤ x13 ∧ x13 ≤ 500) → pm_ok 0 90 V15 → pm_fr [3, 63, 67] V0 V15 → V15 72 1 = 63 → F_X3_readProduct 63 (pf_fac 63 8) V0 = pf_val ((0 : Int), V0) B19 (x13, V15) → (Int.toNat (500 - x13)) = N24 → pm_J X 12 [(0, (3, 72)), (1, (0, 0)), (2, (0, x13))] [] 118 V15 := by
      intro N24
      induction N24 using Nat.strongRecOn with
      | _ N24 ih25 =>
      intro x13 V15 b14 hV16 hF17 e18 hT hm23
      have hb21 := congrFun hB20 (x13, V15)
      refine pm_iload_n hC 2 dX3_readProduct_12 rfl ?_
      refine pm_sipush (v := 500) hC dX3_readProduct_13 (by decide) ?_
      refine pm_icmp_ge (tgt := 64) hC ⟨by omega, by omega⟩ ⟨by decide, by decide⟩ dX3_readProduct_16 (by decide) (fun c26 => ?_) (fun c26 => ?_)
      · skip
        replace hb21 := hb21.trans (if_pos c26)
        refine pm_iconst (v := 1) hC dX3_readProduct_64 ?_
        have hT := hT.trans (pf_val_inr hb21)
        exact pm_iret hC hR (pm_narZ (by omega)) ⟨1, rfl, ⟨by omega, by omega⟩, hV16, hF17, hT⟩ dX3_readProduct_65
      · skip
        replace hb21 := hb21.trans (if_neg (Int.not_le.mpr c26))
        refine pm_aload_n hC 0 (by decide) dX3_readProduct_19 rfl ?_
        have e27 : V15 72 0 = 3 := hV16.one 72 0 (by decide) (by decide) rfl
        refine pm_getf (v := 3) hC 72 fl_X3_9 rfl rfl (by decide) rfl e27 dX3_readProduct_20 ?_
        refine pm_bipush (v := 42) hC dX3_readProduct_23 (by decide) ?_
        obtain ⟨y28, e29⟩ : ∃ y, V15 3 3 = y := ⟨_, rfl⟩
        have b30 := hV16.get 3 3 (lo := (-9223372036854775808)) (hi := 9223372036854775807) (by decide) (by decide) rfl
        rw [e29] at b30
        replace hb21 := hb21.trans (pf_let_eq e29)
        refine pm_callV (ci := 9) (as := [(0, 42)]) (st := []) hC 3 (fC_X9_isSign 42 ⟨by decide, by decide⟩) lm_X3_67 li_X9_isSign (by decide) (by decide) rfl rfl rfl (by decide) rfl rfl (Nat.le_of_ble_eq_true rfl) ⟨Nat.le_refl _, Or.inl rfl⟩ dX3_readProduct_25 ⟨rfl, hV16⟩ (fun r31 V32 hp33 => ?_)
        obtain ⟨y34, rfl, b35, rfl, hE36⟩ := hp33
        replace hb21 := hb21.trans (pf_call_eq hE36)
        change pm_J X 28 [(0, (3, 72)), (1, (0, 0)), (2, (0, x13))] [(0, y34)] 118 V15
        refine pm_if_eq (tgt := 64) hC ⟨by omega, by omega⟩ dX3_readProduct_28 (by decide) (fun c37 => ?_) (fun c37 => ?_)
        · skip
          replace hb21 := hb21.trans (if_pos c37)
          refine pm_iconst (v := 1) hC dX3_readProduct_64 ?_
          have hT := hT.trans (pf_val_inr hb21)
          exact pm_iret hC hR (pm_narZ (by omega)) ⟨1, rfl, ⟨by omega, by omega⟩, hV16, hF17, hT⟩ dX3_readProduct_65
        · skip
          replace hb21 := hb21.trans (if_neg c37)
          refine pm_aload_n hC 0 (by decide) dX3_readProduct_31 rfl ?_
          refine pm_getf (v := 3) hC 72 fl_X3_9 rfl rfl (by decide) rfl e27 dX3_readProduct_32 ?_
          refine pm_callV (ci := 9) (as := []) (st := []) hC 3 fC_X9_step lm_X3_43 li_X9_step (by decide) (by decide) rfl rfl rfl (by decide) rfl rfl (Nat.le_of_ble_eq_true rfl) ⟨Nat.le_refl _, Or.inl rfl⟩ dX3_readProduct_35 ⟨rfl, hV16⟩ (fun r38 V39 hp40 => ?_)
          obtain ⟨rfl, hV41, hF42, hE43⟩ := hp40
          replace hb21 := hb21.trans (pf_call_eq hE43)
          change pm_J X 38 [(0, (3, 72)), (1, (0, 0)), (2, (0, x13))] [] 118 V39
          have hF44 := pm_fr.tr hF17 hF42 (by decide)
          have e45 : V39 72 1 = 63 := by rw [hF42 72 (by decide)]; exact e18
          have e46 : V39 72 0 = 3 := by rw [hF42 72 (by decide)]; exact e27
          refine pm_aload_n hC 0 (by decide) dX3_readProduct_38 rfl ?_
          refine pm_iload_n hC 1 dX3_readProduct_39 rfl ?_
          have q50 : 63 ≤ V39 72 1 ∧ V39 72 1 ≤ 63 := by (have e : V39 72 1 = 63 := e45); rw [e]; exact ⟨by decide, by decide⟩
          refine pm_callV (ci := 3) (as := [(0, 0)]) (st := []) hC 72 fC_X3_readFactor_63_d0 lm_X3_90 li_X3_readFactor (by decide) (by decide) rfl rfl rfl (by decide) rfl rfl (Nat.le_of_ble_eq_true rfl) ⟨Nat.le_refl _, Or.inl rfl⟩ dX3_readProduct_40 ⟨rfl, hV41, q50⟩ (fun r47 V48 hp49 => ?_)
          obtain ⟨y51, rfl, b52, hV53, hF54, hE55⟩ := hp49
          replace hb21 := hb21.trans (pf_call_eq hE55)
          change pm_J X 43 [(0, (3, 72)), (1, (0, 0)), (2, (0, x13))] [(0, y51)] 118 V48
          have hF56 := pm_fr.tr hF44 hF54 (by decide)
          have e57 : V48 72 1 = 63 := by rw [hF54 72 (by decide)]; exact e45
          have e58 : V48 72 0 = 3 := by rw [hF54 72 (by decide)]; exact e46
          refine pm_if_ne (tgt := 48) hC ⟨by omega, by omega⟩ dX3_readProduct_43 (by decide) (fun c59 => ?_) (fun c59 => ?_)
          · skip
            replace hb21 := hb21.trans (if_pos c59)
            refine pm_aload_n hC 0 (by decide) dX3_readProduct_48 rfl ?_
            refine pm_getf (v := 63) hC 72 fl_X3_15 rfl rfl (by decide) rfl e57 dX3_readProduct_49 ?_
            refine pm_sipush (v := 20042) hC dX3_readProduct_52 (by decide) ?_
            refine pm_callV (ci := 2) (as := [(0, 20042)]) (st := []) hC 63 (fC_X2_emit_63 20042 ⟨by decide, by decide⟩) lm_X3_57 li_X2_emit (by decide) (by decide) rfl rfl rfl (by decide) rfl rfl (Nat.le_of_ble_eq_true rfl) ⟨Nat.le_refl _, Or.inl rfl⟩ dX3_readProduct_55 ⟨rfl, hV53⟩ (fun r60 V61 hp62 => ?_)
            obtain ⟨rfl, hV63, hF64, hE65⟩ := hp62
            replace hb21 := hb21.trans (pf_call_eq hE65)
            change pm_J X 58 [(0, (3, 72)), (1, (0, 0)), (2, (0, x13))] [] 118 V61
            have hF66 := pm_fr.tr hF56 hF64 (by decide)
            have e67 : V61 72 1 = 63 := by rw [hF64 72 (by decide)]; exact e57
            have e68 : V61 72 0 = 3 := by rw [hF64 72 (by decide)]; exact e58
            obtain ⟨x69, ei70⟩ : ∃ y : Int, x13 + 1 = y := ⟨_, rfl⟩
            replace hb21 := hb21.trans (pf_let_eq ei70)
            refine pm_iinc (y := x69) (lv' := [(2, (0, x69)), (0, (3, 72)), (1, (0, 0))]) hC 2 dX3_readProduct_58 (by decide) rfl ei70 rfl ?_
            refine pm_goto (tgt := 12) hC dX3_readProduct_61 (by decide) ?_
            refine pm_lvsub [1, 2, 0] (lv' := [(0, (3, 72)), (1, (0, 0)), (2, (0, x69))]) rfl ?_
            exact ih25 _ (by omega) x69 V61 ⟨by omega, by omega⟩ hV63 hF66 e67 (hT.trans (pf_val_inl hb21)) rfl
          · skip
            replace hb21 := hb21.trans (if_neg (fun q => q c59))
            refine pm_iconst (v := 0) hC dX3_readProduct_46 ?_
            have hT := hT.trans (pf_val_inr hb21)
            exact pm_iret hC hR (pm_narZ (by omega)) ⟨0, rfl, ⟨by omega, by omega⟩, hV53, hF56, hT⟩ dX3_readProduct_47
    refine pm_lvsub [1, 2, 0] (lv' := [(0, (3, 72)), (1, (0, 0)), (2, (0, 0))]) rfl ?_
    exact L22 _ 0 V2 ⟨by decide, by decide⟩ hV7 hF10 e11 hT rfl
  · skip
    replace hT := hT.trans (if_neg (fun q => q c12))
    refine pm_iconst (v := 0) hC dX3_readProduct_8 ?_
    exact pm_iret hC hR (pm_narZ (by omega)) ⟨0, rfl, ⟨by omega, by omega⟩, hV7, hF10, hT⟩ dX3_readProduct_9
set_option maxHeartbeats 4000000 in
set_option maxRecDepth 100000 in
theorem fC_X3_readSum_63_d0  : pm_K 29 yX3_readSum cX3_readSum 4 (some .boolean) (fun av V => av = [(3, 72), (0, 0)] ∧ pm_ok 0 90 V ∧ (63 ≤ V 72 1 ∧ V 72 1 ≤ 63)) (fun _ V r V' => ∃ y, r = some (0, y) ∧ (0 ≤ y ∧ y ≤ 1) ∧ pm_ok 0 90 V' ∧ pm_fr [3, 63, 67] V V' ∧ F_X3_readSum 63 (pf_fac 63 8) V = (y, V')) := by
  refine pm_MT.of (by decide) ⟨Nat.le_refl _, by decide⟩ (fun av V h => by rw [h.1]; exact (by decide : pm_words [(3, 0), (0, 0)] ≤ 4)) ?_
  rintro X av V0 hC - hR ⟨rfl, hV0, hq0⟩
  change pm_J X 0 [(0, (3, 72)), (1, (0, 0))] [] 118 V0
  have hT := F_X3_readSum_eq 63 (pf_fac 63 8) V0
  obtain ⟨z0, ez0⟩ : ∃ z, V0 72 1 = z := ⟨_, rfl⟩
  rw [ez0] at hq0
  have en0 : V0 72 1 = 63 := by rw [ez0]; omega
  refine pm_aload_n hC 0 (by decide) dX3_readSum_0 rfl ?_
  refine pm_iload_n hC 1 dX3_readSum_1 rfl ?_
  have q4 : 63 ≤ V0 72 1 ∧ V0 72 1 ≤ 63 := by (have e : V0 72 1 = 63 := en0); rw [e]; exact ⟨by decide, by decide⟩
  refine pm_callV (ci := 3) (as := [(0, 0)]) (st := []) hC 72 fC_X3_readProduct_63_d0 lm_X3_87 li_X3_readProduct (by decide) (by decide) rfl rfl rfl (by decide) rfl rfl (Nat.le_of_ble_eq_true rfl) ⟨Nat.le_refl _, Or.inl rfl⟩ dX3_readSum_2 ⟨rfl, hV0, q4⟩ (fun r1 V2 hp3 => ?_)
  obtain ⟨y5, rfl, b6, hV7, hF8, hE9⟩ := hp3
  replace hT := hT.trans (pf_call_eq hE9)
  change pm_J X 5 [(0, (3, 72)), (1, (0, 0))] [(0, y5)] 118 V2
  have hF10 := pm_fr.tr (pm_fr.rf (ws := [3, 63, 67]) (V := V0)) hF8 (by decide)
  have e11 : V2 72 1 = 63 := by rw [hF8 72 (by decide)]; exact en0
  refine pm_if_ne (tgt := 10) hC ⟨by omega, by omega⟩ dX3_readSum_5 (by decide) (fun c12 => ?_) (fun c12 => ?_)
  · skip
    replace hT := hT.trans (if_pos c12)
    refine pm_iconst (v := 0) hC dX3_readSum_10 ?_
    refine pm_istore_n (lv' := [(2, (0, 0)), (0, (3, 72)), (1, (0, 0))]) hC dX3_readSum_11 (by decide) rfl ?_
    obtain ⟨B19, hB20, hT⟩ := pf_loop hT
    have L22 : ∀ (N24 : Nat) (x13 : Int) (V15 : pm_M), (0 ≤ x13 ∧ x13 ≤ 500) → pm_ok 0 90 V15 → pm_fr [3, 63, 67] V0 V15 → V15 72 1 = 63 → F_X3_readSum 63 (pf_fac 63 8) V0 = pf_val ((0 : Int), V0) B19 (x13, V15) → (Int.toNat (500 - x13)) = N24 → pm_J X 12 [(0, (3, 72)), (1, (0, 0)), (2, (0, x13))] [] 118 V15 := by
      intro N24
      induction N24 using Nat.strongRecOn with
      | _ N24 ih25 =>
      intro x13 V15 b14 hV16 hF17 e18 hT hm23
      have hb21 := congrFun hB20 (x13, V15)
      refine pm_iload_n hC 2 dX3_readSum_12 rfl ?_
      refine pm_sipush (v := 500) hC dX3_readSum_13 (by decide) ?_
      refine pm_icmp_ge (tgt := 87) hC ⟨by omega, by omega⟩ ⟨by decide, by decide⟩ dX3_readSum_16 (by decide) (fun c26 => ?_) (fun c26 => ?_)
      · skip
        replace hb21 := hb21.trans (if_pos c26)
        refine pm_iconst (v := 1) hC dX3_readSum_87 ?_
        have hT := hT.trans (pf_val_inr hb21)
        exact pm_iret hC hR (pm_narZ (by omega)) ⟨1, rfl, ⟨by omega, by omega⟩, hV16, hF17, hT⟩ dX3_readSum_88
      · skip
        replace hb21 := hb21.trans (if_neg (Int.not_le.mpr c26))
        refine pm_aload_n hC 0 (by decide) dX3_readSum_19 rfl ?_
        have e27 : V15 72 0 = 3 := hV16.one 72 0 (by decide) (by decide) rfl
        refine pm_getf (v := 3) hC 72 fl_X3_9 rfl rfl (by decide) rfl e27 dX3_readSum_20 ?_
        refine pm_bipush (v := 43) hC dX3_readSum_23 (by decide) ?_
        obtain ⟨y28, e29⟩ : ∃ y, V15 3 3 = y := ⟨_, rfl⟩
        have b30 := hV16.get 3 3 (lo := (-9223372036854775808)) (hi := 9223372036854775807) (by decide) (by decide) rfl
        rw [e29] at b30
        replace hb21 := hb21.trans (pf_let_eq e29)
        refine pm_callV (ci := 9) (as := [(0, 43)]) (st := []) hC 3 (fC_X9_isSign 43 ⟨by decide, by decide⟩) lm_X3_67 li_X9_isSign (by decide) (by decide) rfl rfl rfl (by decide) rfl rfl (Nat.le_of_ble_eq_true rfl) ⟨Nat.le_refl _, Or.inl rfl⟩ dX3_readSum_25 ⟨rfl, hV16⟩ (fun r31 V32 hp33 => ?_)
        obtain ⟨y34, rfl, b35, rfl, hE36⟩ := hp33
        replace hb21 := hb21.trans (pf_call_eq hE36)
        change pm_J X 28 [(0, (3, 72)), (1, (0, 0)), (2, (0, x13))] [(0, y34)] 118 V15
        refine pm_if_ne (tgt := 43) hC ⟨by omega, by omega⟩ dX3_readSum_28 (by decide) (fun c37 => ?_) (fun c37 => ?_)
        · skip
          replace hb21 := hb21.trans (if_pos c37)
          refine pm_aload_n hC 0 (by decide) dX3_readSum_43 rfl ?_
          refine pm_getf (v := 3) hC 72 fl_X3_9 rfl rfl (by decide) rfl e27 dX3_readSum_44 ?_
          refine pm_getf (v := y28) hC 3 fl_X3_53 rfl rfl (by decide) rfl e29 dX3_readSum_47 ?_
          refine pm_l2i hC dX3_readSum_50 ?_
          refine pm_istore_n (lv' := [(3, (0, y28)), (0, (3, 72)), (1, (0, 0)), (2, (0, x13))]) hC dX3_readSum_51 (by decide) rfl ?_
          refine pm_aload_n hC 1 (by decide) dX3_readSum_52 rfl ?_
          refine pm_getf (v := 3) hC 72 fl_X3_9 rfl rfl (by decide) rfl e27 dX3_readSum_53 ?_
          refine pm_callV (ci := 9) (as := []) (st := []) hC 3 fC_X9_step lm_X3_43 li_X9_step (by decide) (by decide) rfl rfl rfl (by decide) rfl rfl (Nat.le_of_ble_eq_true rfl) ⟨Nat.le_refl _, Or.inl rfl⟩ dX3_readSum_56 ⟨rfl, hV16⟩ (fun r38 V39 hp40 => ?_)
          obtain ⟨rfl, hV41, hF42, hE43⟩ := hp40
          replace hb21 := hb21.trans (pf_call_eq hE43)
          change pm_J X 59 [(3, (0, y28)), (0, (3, 72)), (1, (0, 0)), (2, (0, x13))] [] 118 V39
          have hF44 := pm_fr.tr hF17 hF42 (by decide)
          have e45 : V39 72 1 = 63 := by rw [hF42 72 (by decide)]; exact e18
          have e46 : V39 72 0 = 3 := by rw [hF42 72 (by decide)]; exact e27
          refine pm_aload_n hC 1 (by decide) dX3_readSum_59 rfl ?_
          refine pm_iload_n hC 2 dX3_readSum_60 rfl ?_
          have q50 : 63 ≤ V39 72 1 ∧ V39 72 1 ≤ 63 := by (have e : V39 72 1 = 63 := e45); rw [e]; exact ⟨by decide, by decide⟩
          refine pm_callV (ci := 3) (as := [(0, 0)]) (st := []) hC 72 fC_X3_readProduct_63_d0 lm_X3_87 li_X3_readProduct (by decide) (by decide) rfl rfl rfl (by decide) rfl rfl (Nat.le_of_ble_eq_true rfl) ⟨Nat.le_refl _, Or.inl rfl⟩ dX3_readSum_61 ⟨rfl, hV41, q50⟩ (fun r47 V48 hp49 => ?_)
          obtain ⟨y51, rfl, b52, hV53, hF54, hE55⟩ := hp49
          replace hb21 := hb21.trans (pf_call_eq hE55)
          change pm_J X 64 [(3, (0, y28)), (0, (3, 72)), (1, (0, 0)), (2, (0, x13))] [(0, y51)] 118 V48
          have hF56 := pm_fr.tr hF44 hF54 (by decide)
          have e57 : V48 72 1 = 63 := by rw [hF54 72 (by decide)]; exact e45
          have e58 : V48 72 0 = 3 := by rw [hF54 72 (by decide)]; exact e46
          refine pm_if_ne (tgt := 69) hC ⟨by omega, by omega⟩ dX3_readSum_64 (by decide) (fun c59 => ?_) (fun c59 => ?_)
          · skip
            replace hb21 := hb21.trans (if_pos c59)
            refine pm_aload_n hC 1 (by decide) dX3_readSum_69 rfl ?_
            refine pm_getf (v := 63) hC 72 fl_X3_15 rfl rfl (by decide) rfl e57 dX3_readSum_70 ?_
            refine pm_sipush (v := 20000) hC dX3_readSum_73 (by decide) ?_
            refine pm_iload_n hC 0 dX3_readSum_76 rfl ?_
            refine pm_iadd hC dX3_readSum_77 ?_
            refine pm_callV (ci := 2) (as := [(0, (20000 + y28))]) (st := []) hC 63 (fC_X2_emit_63 (20000 + y28) ⟨by omega, by omega⟩) lm_X3_57 li_X2_emit (by decide) (by decide) rfl rfl rfl (by decide) rfl rfl (Nat.le_of_ble_eq_true rfl) ⟨Nat.le_refl _, Or.inl rfl⟩ dX3_readSum_78 ⟨rfl, hV53⟩ (fun r60 V61 hp62 => ?_)
            obtain ⟨rfl, hV63, hF64, hE65⟩ := hp62
            replace hb21 := hb21.trans (pf_call_eq hE65)
            change pm_J X 81 [(3, (0, y28)), (0, (3, 72)), (1, (0, 0)), (2, (0, x13))] [] 118 V61
            have hF66 := pm_fr.tr hF56 hF64 (by decide)
            have e67 : V61 72 1 = 63 := by rw [hF64 72 (by decide)]; exact e57
            have e68 : V61 72 0 = 3 := by rw [hF64 72 (by decide)]; exact e58
            obtain ⟨x69, ei70⟩ : ∃ y : Int, x13 + 1 = y := ⟨_, rfl⟩
            replace hb21 := hb21.trans (pf_let_eq ei70)
            refine pm_iinc (y := x69) (lv' := [(2, (0, x69)), (3, (0, y28)), (0, (3, 72)), (1, (0, 0))]) hC 3 dX3_readSum_81 (by decide) rfl ei70 rfl ?_
            refine pm_goto (tgt := 12) hC dX3_readSum_84 (by decide) ?_
            refine pm_lvsub [2, 3, 0] (lv' := [(0, (3, 72)), (1, (0, 0)), (2, (0, x69))]) rfl ?_
            exact ih25 _ (by omega) x69 V61 ⟨by omega, by omega⟩ hV63 hF66 e67 (hT.trans (pf_val_inl hb21)) rfl
          · skip
            replace hb21 := hb21.trans (if_neg (fun q => q c59))
            refine pm_iconst (v := 0) hC dX3_readSum_67 ?_
            have hT := hT.trans (pf_val_inr hb21)
            exact pm_iret hC hR (pm_narZ (by omega)) ⟨0, rfl, ⟨by omega, by omega⟩, hV53, hF56, hT⟩ dX3_readSum_68
        · skip
          replace hb21 := hb21.trans (if_neg (fun q => q c37))
          refine pm_aload_n hC 0 (by decide) dX3_readSum_31 rfl ?_
          refine pm_getf (v := 3) hC 72 fl_X3_9 rfl rfl (by decide) rfl e27 dX3_readSum_32 ?_
          refine pm_bipush (v := 45) hC dX3_readSum_35 (by decide) ?_
          refine pm_callV (ci := 9) (as := [(0, 45)]) (st := []) hC 3 (fC_X9_isSign 45 ⟨by decide, by decide⟩) lm_X3_67 li_X9_isSign (by decide) (by decide) rfl rfl rfl (by decide) rfl rfl (Nat.le_of_ble_eq_true rfl) ⟨Nat.le_refl _, Or.inl rfl⟩ dX3_readSum_37 ⟨rfl, hV16⟩ (fun r71 V72 hp73 => ?_)
          obtain ⟨y74, rfl, b75, rfl, hE76⟩ := hp73
          replace hb21 := hb21.trans (pf_call_eq hE76)
          change pm_J X 40 [(0, (3, 72)), (1, (0, 0)), (2, (0, x13))] [(0, y74)] 118 V15
          refine pm_if_eq (tgt := 87) hC ⟨by omega, by omega⟩ dX3_readSum_40 (by decide) (fun c77 => ?_) (fun c77 => ?_)
          · skip
            replace hb21 := hb21.trans (if_pos c77)
            refine pm_iconst (v := 1) hC dX3_readSum_87 ?_
            have hT := hT.trans (pf_val_inr hb21)
            exact pm_iret hC hR (pm_narZ (by omega)) ⟨1, rfl, ⟨by omega, by omega⟩, hV16, hF17, hT⟩ dX3_readSum_88
          · skip
            replace hb21 := hb21.trans (if_neg c77)
            refine pm_aload_n hC 0 (by decide) dX3_readSum_43 rfl ?_
            refine pm_getf (v := 3) hC 72 fl_X3_9 rfl rfl (by decide) rfl e27 dX3_readSum_44 ?_
            refine pm_getf (v := y28) hC 3 fl_X3_53 rfl rfl (by decide) rfl e29 dX3_readSum_47 ?_
            refine pm_l2i hC dX3_readSum_50 ?_
            refine pm_istore_n (lv' := [(3, (0, y28)), (0, (3, 72)), (1, (0, 0)), (2, (0, x13))]) hC dX3_readSum_51 (by decide) rfl ?_
            refine pm_aload_n hC 1 (by decide) dX3_readSum_52 rfl ?_
            refine pm_getf (v := 3) hC 72 fl_X3_9 rfl rfl (by decide) rfl e27 dX3_readSum_53 ?_
            refine pm_callV (ci := 9) (as := []) (st := []) hC 3 fC_X9_step lm_X3_43 li_X9_step (by decide) (by decide) rfl rfl rfl (by decide) rfl rfl (Nat.le_of_ble_eq_true rfl) ⟨Nat.le_refl _, Or.inl rfl⟩ dX3_readSum_56 ⟨rfl, hV16⟩ (fun r78 V79 hp80 => ?_)
            obtain ⟨rfl, hV81, hF82, hE83⟩ := hp80
            replace hb21 := hb21.trans (pf_call_eq hE83)
            change pm_J X 59 [(3, (0, y28)), (0, (3, 72)), (1, (0, 0)), (2, (0, x13))] [] 118 V79
            have hF84 := pm_fr.tr hF17 hF82 (by decide)
            have e85 : V79 72 1 = 63 := by rw [hF82 72 (by decide)]; exact e18
            have e86 : V79 72 0 = 3 := by rw [hF82 72 (by decide)]; exact e27
            refine pm_aload_n hC 1 (by decide) dX3_readSum_59 rfl ?_
            refine pm_iload_n hC 2 dX3_readSum_60 rfl ?_
            have q90 : 63 ≤ V79 72 1 ∧ V79 72 1 ≤ 63 := by (have e : V79 72 1 = 63 := e85); rw [e]; exact ⟨by decide, by decide⟩
            refine pm_callV (ci := 3) (as := [(0, 0)]) (st := []) hC 72 fC_X3_readProduct_63_d0 lm_X3_87 li_X3_readProduct (by decide) (by decide) rfl rfl rfl (by decide) rfl rfl (Nat.le_of_ble_eq_true rfl) ⟨Nat.le_refl _, Or.inl rfl⟩ dX3_readSum_61 ⟨rfl, hV81, q90⟩ (fun r87 V88 hp89 => ?_)
            obtain ⟨y91, rfl, b92, hV93, hF94, hE95⟩ := hp89
            replace hb21 := hb21.trans (pf_call_eq hE95)
            change pm_J X 64 [(3, (0, y28)), (0, (3, 72)), (1, (0, 0)), (2, (0, x13))] [(0, y91)] 118 V88
            have hF96 := pm_fr.tr hF84 hF94 (by decide)
            have e97 : V88 72 1 = 63 := by rw [hF94 72 (by decide)]; exact e85
            have e98 : V88 72 0 = 3 := by rw [hF94 72 (by decide)]; exact e86
            refine pm_if_ne (tgt := 69) hC ⟨by omega, by omega⟩ dX3_readSum_64 (by decide) (fun c99 => ?_) (fun c99 => ?_)
            · skip
              replace hb21 := hb21.trans (if_pos c99)
              refine pm_aload_n hC 1 (by decide) dX3_readSum_69 rfl ?_
              refine pm_getf (v := 63) hC 72 fl_X3_15 rfl rfl (by decide) rfl e97 dX3_readSum_70 ?_
              refine pm_sipush (v := 20000) hC dX3_readSum_73 (by decide) ?_
              refine pm_iload_n hC 0 dX3_readSum_76 rfl ?_
              refine pm_iadd hC dX3_readSum_77 ?_
              refine pm_callV (ci := 2) (as := [(0, (20000 + y28))]) (st := []) hC 63 (fC_X2_emit_63 (20000 + y28) ⟨by omega, by omega⟩) lm_X3_57 li_X2_emit (by decide) (by decide) rfl rfl rfl (by decide) rfl rfl (Nat.le_of_ble_eq_true rfl) ⟨Nat.le_refl _, Or.inl rfl⟩ dX3_readSum_78 ⟨rfl, hV93⟩ (fun r100 V101 hp102 => ?_)
              obtain ⟨rfl, hV103, hF104, hE105⟩ := hp102
              replace hb21 := hb21.trans (pf_call_eq hE105)
              change pm_J X 81 [(3, (0, y28)), (0, (3, 72)), (1, (0, 0)), (2, (0, x13))] [] 118 V101
              have hF106 := pm_fr.tr hF96 hF104 (by decide)
              have e107 : V101 72 1 = 63 := by rw [hF104 72 (by decide)]; exact e97
              have e108 : V101 72 0 = 3 := by rw [hF104 72 (by decide)]; exact e98
              obtain ⟨x109, ei110⟩ : ∃ y : Int, x13 + 1 = y := ⟨_, rfl⟩
              replace hb21 := hb21.trans (pf_let_eq ei110)
              refine pm_iinc (y := x109) (lv' := [(2, (0, x109)), (3, (0, y28)), (0, (3, 72)), (1, (0, 0))]) hC 3 dX3_readSum_81 (by decide) rfl ei110 rfl ?_
              refine pm_goto (tgt := 12) hC dX3_readSum_84 (by decide) ?_
              refine pm_lvsub [2, 3, 0] (lv' := [(0, (3, 72)), (1, (0, 0)), (2, (0, x109))]) rfl ?_
              exact ih25 _ (by omega) x109 V101 ⟨by omega, by omega⟩ hV103 hF106 e107 (hT.trans (pf_val_inl hb21)) rfl
            · skip
              replace hb21 := hb21.trans (if_neg (fun q => q c99))
              refine pm_iconst (v := 0) hC dX3_readSum_67 ?_
              have hT := hT.trans (pf_val_inr hb21)
              exact pm_iret hC hR (pm_narZ (by omega)) ⟨0, rfl, ⟨by omega, by omega⟩, hV93, hF96, hT⟩ dX3_readSum_68
    refine pm_lvsub [1, 2, 0] (lv' := [(0, (3, 72)), (1, (0, 0)), (2, (0, 0))]) rfl ?_
    exact L22 _ 0 V2 ⟨by decide, by decide⟩ hV7 hF10 e11 hT rfl
  · skip
    replace hT := hT.trans (if_neg (fun q => q c12))
    refine pm_iconst (v := 0) hC dX3_readSum_8 ?_
    exact pm_iret hC hR (pm_narZ (by omega)) ⟨0, rfl, ⟨by omega, by omega⟩, hV7, hF10, hT⟩ dX3_readSum_9
set_option maxHeartbeats 4000000 in
set_option maxRecDepth 100000 in
theorem fC_X3_isComparison_63  : pm_K 2 yX3_isComparison cX3_isComparison 1 (some .boolean) (fun av V => av = [(3, 72)] ∧ pm_ok 0 90 V ∧ (63 ≤ V 72 1 ∧ V 72 1 ≤ 63)) (fun _ V r V' => ∃ y, r = some (0, y) ∧ (0 ≤ y ∧ y ≤ 1 ∧ (y = 1 → 60 ≤ V 3 3 ∧ V 3 3 ≤ 61)) ∧ V = V' ∧ F_X3_isComparison 63 V = (y, V)) := by
  refine pm_MT.of (by decide) ⟨Nat.le_refl _, by decide⟩ (fun av V h => by rw [h.1]; exact (by decide : pm_words [(3, 0)] ≤ 1)) ?_
  rintro X av V0 hC - hR ⟨rfl, hV0, hq0⟩
  change pm_J X 0 [(0, (3, 72))] [] 118 V0
  have hT := F_X3_isComparison_eq 63 V0
  obtain ⟨z0, ez0⟩ : ∃ z, V0 72 1 = z := ⟨_, rfl⟩
  rw [ez0] at hq0
  have en0 : V0 72 1 = 63 := by rw [ez0]; omega
  refine pm_aload_n hC 0 (by decide) dX3_isComparison_0 rfl ?_
  have e1 : V0 72 0 = 3 := hV0.one 72 0 (by decide) (by decide) rfl
  refine pm_getf (v := 3) hC 72 fl_X3_9 rfl rfl (by decide) rfl e1 dX3_isComparison_1 ?_
  refine pm_bipush (v := 60) hC dX3_isComparison_4 (by decide) ?_
  obtain ⟨y2, e3⟩ : ∃ y, V0 3 3 = y := ⟨_, rfl⟩
  have b4 := hV0.get 3 3 (lo := (-9223372036854775808)) (hi := 9223372036854775807) (by decide) (by decide) rfl
  rw [e3] at b4
  replace hT := hT.trans (pf_let_eq e3)
  refine pm_callV (ci := 9) (as := [(0, 60)]) (st := []) hC 3 (fC_X9_isSign 60 ⟨by decide, by decide⟩) lm_X3_67 li_X9_isSign (by decide) (by decide) rfl rfl rfl (by decide) rfl rfl (Nat.le_of_ble_eq_true rfl) ⟨Nat.le_refl _, Or.inl rfl⟩ dX3_isComparison_6 ⟨rfl, hV0⟩ (fun r5 V6 hp7 => ?_)
  obtain ⟨y8, rfl, b9, rfl, hE10⟩ := hp7
  replace hT := hT.trans (pf_call_eq hE10)
  change pm_J X 9 [(0, (3, 72))] [(0, y8)] 118 V0
  refine pm_if_ne (tgt := 24) hC ⟨by omega, by omega⟩ dX3_isComparison_9 (by decide) (fun c11 => ?_) (fun c11 => ?_)
  · skip
    replace hT := hT.trans (if_pos c11)
    refine pm_iconst (v := 1) hC dX3_isComparison_24 ?_
    refine pm_goto (tgt := 29) hC dX3_isComparison_25 (by decide) ?_
    exact pm_iret hC hR (pm_narZ (by omega)) ⟨1, rfl, ⟨by omega, by omega, by omega⟩, rfl, hT⟩ dX3_isComparison_29
  · skip
    replace hT := hT.trans (if_neg (fun q => q c11))
    refine pm_aload_n hC 0 (by decide) dX3_isComparison_12 rfl ?_
    refine pm_getf (v := 3) hC 72 fl_X3_9 rfl rfl (by decide) rfl e1 dX3_isComparison_13 ?_
    refine pm_bipush (v := 61) hC dX3_isComparison_16 (by decide) ?_
    refine pm_callV (ci := 9) (as := [(0, 61)]) (st := []) hC 3 (fC_X9_isSign 61 ⟨by decide, by decide⟩) lm_X3_67 li_X9_isSign (by decide) (by decide) rfl rfl rfl (by decide) rfl rfl (Nat.le_of_ble_eq_true rfl) ⟨Nat.le_refl _, Or.inl rfl⟩ dX3_isComparison_18 ⟨rfl, hV0⟩ (fun r12 V13 hp14 => ?_)
    obtain ⟨y15, rfl, b16, rfl, hE17⟩ := hp14
    replace hT := hT.trans (pf_call_eq hE17)
    change pm_J X 21 [(0, (3, 72))] [(0, y15)] 118 V0
    refine pm_if_eq (tgt := 28) hC ⟨by omega, by omega⟩ dX3_isComparison_21 (by decide) (fun c18 => ?_) (fun c18 => ?_)
    · skip
      replace hT := hT.trans (if_pos c18)
      refine pm_iconst (v := 0) hC dX3_isComparison_28 ?_
      exact pm_iret hC hR (pm_narZ (by omega)) ⟨0, rfl, ⟨by omega, by omega, by omega⟩, rfl, hT⟩ dX3_isComparison_29
    · skip
      replace hT := hT.trans (if_neg c18)
      refine pm_iconst (v := 1) hC dX3_isComparison_24 ?_
      refine pm_goto (tgt := 29) hC dX3_isComparison_25 (by decide) ?_
      exact pm_iret hC hR (pm_narZ (by omega)) ⟨1, rfl, ⟨by omega, by omega, by omega⟩, rfl, hT⟩ dX3_isComparison_29
set_option maxHeartbeats 4000000 in
set_option maxRecDepth 100000 in
theorem fC_X2_endLine_63  : pm_K 1 yX2_endLine cX2_endLine 1 none (fun av V => av = [(3, 63)] ∧ pm_ok 0 90 V) (fun _ V r V' => r = none ∧ pm_ok 0 90 V' ∧ pm_fr [63, 66] V V' ∧ F_X2_endLine 63 V = (0, V')) := by
  refine pm_MT.of (by decide) ⟨Nat.le_refl _, by decide⟩ (fun av V h => by rw [h.1]; exact (by decide : pm_words [(3, 0)] ≤ 1)) ?_
  rintro X av V0 hC - hR ⟨rfl, hV0⟩
  change pm_J X 0 [(0, (3, 63))] [] 118 V0
  have hT := F_X2_endLine_eq 63 V0
  refine pm_aload_n hC 0 (by decide) dX2_endLine_0 rfl ?_
  obtain ⟨y1, e2⟩ : ∃ y, V0 63 0 = y := ⟨_, rfl⟩
  have b3 := hV0.get 63 0 (lo := 0) (hi := 10) (by decide) (by decide) rfl
  rw [e2] at b3
  replace hT := hT.trans (pf_let_eq e2)
  refine pm_getf (v := y1) hC 63 fl_X2_9 rfl rfl (by decide) rfl e2 dX2_endLine_1 ?_
  refine pm_bipush (v := 10) hC dX2_endLine_4 (by decide) ?_
  refine pm_icmp_ge (tgt := 32) hC ⟨by omega, by omega⟩ ⟨by decide, by decide⟩ dX2_endLine_6 (by decide) (fun c4 => ?_) (fun c4 => ?_)
  · skip
    replace hT := hT.trans (if_pos c4)
    exact pm_vret hC hR ⟨rfl, hV0, (pm_fr.rf (ws := [63, 66]) (V := V0)), hT⟩ dX2_endLine_32
  · skip
    replace hT := hT.trans (if_neg (Int.not_le.mpr c4))
    refine pm_aload_n hC 0 (by decide) dX2_endLine_9 rfl ?_
    have e5 : V0 63 3 = 66 := hV0.one 63 3 (by decide) (by decide) rfl
    refine pm_getf (v := 66) hC 63 fl_X2_22 rfl rfl (by decide) rfl e5 dX2_endLine_10 ?_
    refine pm_aload_n hC 0 (by decide) dX2_endLine_13 rfl ?_
    refine pm_getf (v := y1) hC 63 fl_X2_9 rfl rfl (by decide) rfl e2 dX2_endLine_14 ?_
    refine pm_aload_n hC 0 (by decide) dX2_endLine_17 rfl ?_
    obtain ⟨y6, e7⟩ : ∃ y, V0 63 5 = y := ⟨_, rfl⟩
    have b8 := hV0.get 63 5 (lo := 0) (hi := 500) (by decide) (by decide) rfl
    rw [e7] at b8
    replace hT := hT.trans (pf_let_eq e7)
    refine pm_getf (v := y6) hC 63 fl_X2_28 rfl rfl (by decide) rfl e7 dX2_endLine_18 ?_
    refine pm_iastore (len := 10) hC 66 rfl rfl (by decide) ⟨by omega, by omega⟩ (by decide) dX2_endLine_21 ?_
    refine pm_aload_n hC 0 (by decide) dX2_endLine_22 rfl ?_
    refine pm_dup hC rfl dX2_endLine_23 ?_
    refine pm_getf (v := y1) hC 63 fl_X2_9 rfl rfl (by decide) rfl e2 dX2_endLine_24 ?_
    refine pm_iconst (v := 1) hC dX2_endLine_27 ?_
    refine pm_iadd hC dX2_endLine_28 ?_
    refine pm_putf hC 63 fl_X2_9 rfl rfl rfl (by decide) rfl trivial dX2_endLine_29 ?_
    exact pm_vret hC hR ⟨rfl, ((hV0.put 66 (y1 : Int).toNat (x := y6) (lo := 0) (hi := 500) rfl ⟨by omega, by omega⟩).put 63 0 (x := (y1 + 1)) (lo := 0) (hi := 10) rfl ⟨by omega, by omega⟩), (((pm_fr.rf (ws := [63, 66]) (V := V0)).up 66 (y1 : Int).toNat y6 rfl).up 63 0 (y1 + 1) rfl), hT⟩ dX2_endLine_32
set_option maxHeartbeats 4000000 in
set_option maxRecDepth 100000 in
theorem fC_X3_readLine_63  : pm_K 30 yX3_readLine cX3_readLine 4 (some .boolean) (fun av V => av = [(3, 72)] ∧ pm_ok 0 90 V ∧ (63 ≤ V 72 1 ∧ V 72 1 ≤ 63)) (fun _ V r V' => ∃ y, r = some (0, y) ∧ (0 ≤ y ∧ y ≤ 1) ∧ pm_ok 0 90 V' ∧ pm_fr [3, 63, 64, 65, 66, 67] V V' ∧ F_X3_readLine 63 V = (y, V')) := by
  refine pm_MT.of (by decide) ⟨Nat.le_refl _, by decide⟩ (fun av V h => by rw [h.1]; exact (by decide : pm_words [(3, 0)] ≤ 4)) ?_
  rintro X av V0 hC - hR ⟨rfl, hV0, hq0⟩
  change pm_J X 0 [(0, (3, 72))] [] 118 V0
  have hT := F_X3_readLine_eq 63 V0
  obtain ⟨z0, ez0⟩ : ∃ z, V0 72 1 = z := ⟨_, rfl⟩
  rw [ez0] at hq0
  have en0 : V0 72 1 = 63 := by rw [ez0]; omega
  refine pm_aload_n hC 0 (by decide) dX3_readLine_0 rfl ?_
  have q4 : 63 ≤ V0 72 1 ∧ V0 72 1 ≤ 63 := by (have e : V0 72 1 = 63 := en0); rw [e]; exact ⟨by decide, by decide⟩
  refine pm_callV (ci := 3) (as := []) (st := []) hC 72 fC_X3_readHead_63 lm_X3_40 li_X3_readHead (by decide) (by decide) rfl rfl rfl (by decide) rfl rfl (Nat.le_of_ble_eq_true rfl) ⟨Nat.le_refl _, Or.inl rfl⟩ dX3_readLine_1 ⟨rfl, hV0, q4⟩ (fun r1 V2 hp3 => ?_)
  obtain ⟨y5, rfl, b6, hV7, hF8, hE9⟩ := hp3
  replace hT := hT.trans (pf_call_eq hE9)
  change pm_J X 4 [(0, (3, 72))] [(0, y5)] 118 V2
  have hF10 := pm_fr.tr (pm_fr.rf (ws := [3, 63, 64, 65, 66, 67]) (V := V0)) hF8 (by decide)
  have e11 : V2 72 1 = 63 := by rw [hF8 72 (by decide)]; exact en0
  refine pm_if_ne (tgt := 9) hC ⟨by omega, by omega⟩ dX3_readLine_4 (by decide) (fun c12 => ?_) (fun c12 => ?_)
  · skip
    replace hT := hT.trans (if_pos c12)
    refine pm_iconst (v := 1) hC dX3_readLine_9 ?_
    refine pm_istore_n (lv' := [(1, (0, 1)), (0, (3, 72))]) hC dX3_readLine_10 (by decide) rfl ?_
    refine pm_iconst (v := 0) hC dX3_readLine_11 ?_
    refine pm_istore_n (lv' := [(2, (0, 0)), (1, (0, 1)), (0, (3, 72))]) hC dX3_readLine_12 (by decide) rfl ?_
    obtain ⟨B21, hB22, hT⟩ := pf_loop hT
    have L24 : ∀ (N26 : Nat) (x13 : Int) (x15 : Int) (V17 : pm_M), (0 ≤ x13 ∧ x13 ≤ 1) → (0 ≤ x15 ∧ x15 ≤ 500) → pm_ok 0 90 V17 → pm_fr [3, 63, 64, 65, 66, 67] V0 V17 → V17 72 1 = 63 → F_X3_readLine 63 V0 = pf_val ((0 : Int), V0) B21 (x13, x15, V17) → (Int.toNat (500 - x15)) = N26 → pm_J X 13 [(0, (3, 72)), (1, (0, x13)), (2, (0, x15))] [] 118 V17 := by
      intro N26
      induction N26 using Nat.strongRecOn with
      | _ N26 ih27 =>
      intro x13 x15 V17 b14 b16 hV18 hF19 e20 hT hm25
      have hb23 := congrFun hB22 (x13, x15, V17)
      refine pm_iload_n hC 2 dX3_readLine_13 rfl ?_
      refine pm_sipush (v := 500) hC dX3_readLine_14 (by decide) ?_
      refine pm_icmp_ge (tgt := 103) hC ⟨by omega, by omega⟩ ⟨by decide, by decide⟩ dX3_readLine_17 (by decide) (fun c28 => ?_) (fun c28 => ?_)
      · skip
        replace hb23 := hb23.trans (if_pos c28)
        refine pm_aload_n hC 0 (by decide) dX3_readLine_103 rfl ?_
        have e29 : V17 72 0 = 3 := hV18.one 72 0 (by decide) (by decide) rfl
        refine pm_getf (v := 3) hC 72 fl_X3_9 rfl rfl (by decide) rfl e29 dX3_readLine_104 ?_
        refine pm_bipush (v := 59) hC dX3_readLine_107 (by decide) ?_
        obtain ⟨y30, e31⟩ : ∃ y, V17 3 3 = y := ⟨_, rfl⟩
        have b32 := hV18.get 3 3 (lo := (-9223372036854775808)) (hi := 9223372036854775807) (by decide) (by decide) rfl
        rw [e31] at b32
        replace hb23 := hb23.trans (pf_let_eq e31)
        refine pm_callV (ci := 9) (as := [(0, 59)]) (st := []) hC 3 (fC_X9_isSign 59 ⟨by decide, by decide⟩) lm_X3_67 li_X9_isSign (by decide) (by decide) rfl rfl rfl (by decide) rfl rfl (Nat.le_of_ble_eq_true rfl) ⟨Nat.le_refl _, Or.inl rfl⟩ dX3_readLine_109 ⟨rfl, hV18⟩ (fun r33 V34 hp35 => ?_)
        obtain ⟨y36, rfl, b37, rfl, hE38⟩ := hp35
        replace hb23 := hb23.trans (pf_call_eq hE38)
        change pm_J X 112 [(0, (3, 72)), (1, (0, x13)), (2, (0, x15))] [(0, y36)] 118 V17
        refine pm_if_ne (tgt := 117) hC ⟨by omega, by omega⟩ dX3_readLine_112 (by decide) (fun c39 => ?_) (fun c39 => ?_)
        · skip
          replace hb23 := hb23.trans (if_pos c39)
          refine pm_aload_n hC 0 (by decide) dX3_readLine_117 rfl ?_
          refine pm_getf (v := 63) hC 72 fl_X3_15 rfl rfl (by decide) rfl e20 dX3_readLine_118 ?_
          refine pm_callV (ci := 2) (as := []) (st := []) hC 63 fC_X2_endLine_63 lm_X3_70 li_X2_endLine (by decide) (by decide) rfl rfl rfl (by decide) rfl rfl (Nat.le_of_ble_eq_true rfl) ⟨Nat.le_refl _, Or.inl rfl⟩ dX3_readLine_121 ⟨rfl, hV18⟩ (fun r40 V41 hp42 => ?_)
          obtain ⟨rfl, hV43, hF44, hE45⟩ := hp42
          replace hb23 := hb23.trans (pf_call_eq hE45)
          change pm_J X 124 [(0, (3, 72)), (1, (0, x13)), (2, (0, x15))] [] 118 V41
          have hF46 := pm_fr.tr hF19 hF44 (by decide)
          have e47 : V41 72 1 = 63 := by rw [hF44 72 (by decide)]; exact e20
          have e48 : V41 72 0 = 3 := by rw [hF44 72 (by decide)]; exact e29
          have e49 : V41 3 3 = y30 := by rw [hF44 3 (by decide)]; exact e31
          refine pm_aload_n hC 0 (by decide) dX3_readLine_124 rfl ?_
          refine pm_getf (v := 3) hC 72 fl_X3_9 rfl rfl (by decide) rfl e48 dX3_readLine_125 ?_
          refine pm_callV (ci := 9) (as := []) (st := []) hC 3 fC_X9_step lm_X3_43 li_X9_step (by decide) (by decide) rfl rfl rfl (by decide) rfl rfl (Nat.le_of_ble_eq_true rfl) ⟨Nat.le_refl _, Or.inl rfl⟩ dX3_readLine_128 ⟨rfl, hV43⟩ (fun r50 V51 hp52 => ?_)
          obtain ⟨rfl, hV53, hF54, hE55⟩ := hp52
          replace hb23 := hb23.trans (pf_call_eq hE55)
          change pm_J X 131 [(0, (3, 72)), (1, (0, x13)), (2, (0, x15))] [] 118 V51
          have hF56 := pm_fr.tr hF46 hF54 (by decide)
          have e57 : V51 72 1 = 63 := by rw [hF54 72 (by decide)]; exact e47
          have e58 : V51 72 0 = 3 := by rw [hF54 72 (by decide)]; exact e48
          refine pm_iconst (v := 1) hC dX3_readLine_131 ?_
          have hT := hT.trans (pf_val_inr hb23)
          exact pm_iret hC hR (pm_narZ (by omega)) ⟨1, rfl, ⟨by omega, by omega⟩, hV53, hF56, hT⟩ dX3_readLine_132
        · skip
          replace hb23 := hb23.trans (if_neg (fun q => q c39))
          refine pm_iconst (v := 0) hC dX3_readLine_115 ?_
          have hT := hT.trans (pf_val_inr hb23)
          exact pm_iret hC hR (pm_narZ (by omega)) ⟨0, rfl, ⟨by omega, by omega⟩, hV18, hF19, hT⟩ dX3_readLine_116
      · skip
        replace hb23 := hb23.trans (if_neg (Int.not_le.mpr c28))
        refine pm_iload_n hC 1 dX3_readLine_20 rfl ?_
        refine pm_if_eq (tgt := 103) hC ⟨by omega, by omega⟩ dX3_readLine_21 (by decide) (fun c59 => ?_) (fun c59 => ?_)
        · skip
          replace hb23 := hb23.trans (if_pos c59)
          refine pm_aload_n hC 0 (by decide) dX3_readLine_103 rfl ?_
          have e60 : V17 72 0 = 3 := hV18.one 72 0 (by decide) (by decide) rfl
          refine pm_getf (v := 3) hC 72 fl_X3_9 rfl rfl (by decide) rfl e60 dX3_readLine_104 ?_
          refine pm_bipush (v := 59) hC dX3_readLine_107 (by decide) ?_
          obtain ⟨y61, e62⟩ : ∃ y, V17 3 3 = y := ⟨_, rfl⟩
          have b63 := hV18.get 3 3 (lo := (-9223372036854775808)) (hi := 9223372036854775807) (by decide) (by decide) rfl
          rw [e62] at b63
          replace hb23 := hb23.trans (pf_let_eq e62)
          refine pm_callV (ci := 9) (as := [(0, 59)]) (st := []) hC 3 (fC_X9_isSign 59 ⟨by decide, by decide⟩) lm_X3_67 li_X9_isSign (by decide) (by decide) rfl rfl rfl (by decide) rfl rfl (Nat.le_of_ble_eq_true rfl) ⟨Nat.le_refl _, Or.inl rfl⟩ dX3_readLine_109 ⟨rfl, hV18⟩ (fun r64 V65 hp66 => ?_)
          obtain ⟨y67, rfl, b68, rfl, hE69⟩ := hp66
          replace hb23 := hb23.trans (pf_call_eq hE69)
          change pm_J X 112 [(0, (3, 72)), (1, (0, x13)), (2, (0, x15))] [(0, y67)] 118 V17
          refine pm_if_ne (tgt := 117) hC ⟨by omega, by omega⟩ dX3_readLine_112 (by decide) (fun c70 => ?_) (fun c70 => ?_)
          · skip
            replace hb23 := hb23.trans (if_pos c70)
            refine pm_aload_n hC 0 (by decide) dX3_readLine_117 rfl ?_
            refine pm_getf (v := 63) hC 72 fl_X3_15 rfl rfl (by decide) rfl e20 dX3_readLine_118 ?_
            refine pm_callV (ci := 2) (as := []) (st := []) hC 63 fC_X2_endLine_63 lm_X3_70 li_X2_endLine (by decide) (by decide) rfl rfl rfl (by decide) rfl rfl (Nat.le_of_ble_eq_true rfl) ⟨Nat.le_refl _, Or.inl rfl⟩ dX3_readLine_121 ⟨rfl, hV18⟩ (fun r71 V72 hp73 => ?_)
            obtain ⟨rfl, hV74, hF75, hE76⟩ := hp73
            replace hb23 := hb23.trans (pf_call_eq hE76)
            change pm_J X 124 [(0, (3, 72)), (1, (0, x13)), (2, (0, x15))] [] 118 V72
            have hF77 := pm_fr.tr hF19 hF75 (by decide)
            have e78 : V72 72 1 = 63 := by rw [hF75 72 (by decide)]; exact e20
            have e79 : V72 72 0 = 3 := by rw [hF75 72 (by decide)]; exact e60
            have e80 : V72 3 3 = y61 := by rw [hF75 3 (by decide)]; exact e62
            refine pm_aload_n hC 0 (by decide) dX3_readLine_124 rfl ?_
            refine pm_getf (v := 3) hC 72 fl_X3_9 rfl rfl (by decide) rfl e79 dX3_readLine_125 ?_
            refine pm_callV (ci := 9) (as := []) (st := []) hC 3 fC_X9_step lm_X3_43 li_X9_step (by decide) (by decide) rfl rfl rfl (by decide) rfl rfl (Nat.le_of_ble_eq_true rfl) ⟨Nat.le_refl _, Or.inl rfl⟩ dX3_readLine_128 ⟨rfl, hV74⟩ (fun r81 V82 hp83 => ?_)
            obtain ⟨rfl, hV84, hF85, hE86⟩ := hp83
            replace hb23 := hb23.trans (pf_call_eq hE86)
            change pm_J X 131 [(0, (3, 72)), (1, (0, x13)), (2, (0, x15))] [] 118 V82
            have hF87 := pm_fr.tr hF77 hF85 (by decide)
            have e88 : V82 72 1 = 63 := by rw [hF85 72 (by decide)]; exact e78
            have e89 : V82 72 0 = 3 := by rw [hF85 72 (by decide)]; exact e79
            refine pm_iconst (v := 1) hC dX3_readLine_131 ?_
            have hT := hT.trans (pf_val_inr hb23)
            exact pm_iret hC hR (pm_narZ (by omega)) ⟨1, rfl, ⟨by omega, by omega⟩, hV84, hF87, hT⟩ dX3_readLine_132
          · skip
            replace hb23 := hb23.trans (if_neg (fun q => q c70))
            refine pm_iconst (v := 0) hC dX3_readLine_115 ?_
            have hT := hT.trans (pf_val_inr hb23)
            exact pm_iret hC hR (pm_narZ (by omega)) ⟨0, rfl, ⟨by omega, by omega⟩, hV18, hF19, hT⟩ dX3_readLine_116
        · skip
          replace hb23 := hb23.trans (if_neg c59)
          refine pm_aload_n hC 0 (by decide) dX3_readLine_24 rfl ?_
          have e90 : V17 72 0 = 3 := hV18.one 72 0 (by decide) (by decide) rfl
          refine pm_getf (v := 3) hC 72 fl_X3_9 rfl rfl (by decide) rfl e90 dX3_readLine_25 ?_
          refine pm_callV (ci := 9) (as := []) (st := []) hC 3 fC_X9_step lm_X3_43 li_X9_step (by decide) (by decide) rfl rfl rfl (by decide) rfl rfl (Nat.le_of_ble_eq_true rfl) ⟨Nat.le_refl _, Or.inl rfl⟩ dX3_readLine_28 ⟨rfl, hV18⟩ (fun r91 V92 hp93 => ?_)
          obtain ⟨rfl, hV94, hF95, hE96⟩ := hp93
          replace hb23 := hb23.trans (pf_call_eq hE96)
          change pm_J X 31 [(0, (3, 72)), (1, (0, x13)), (2, (0, x15))] [] 118 V92
          have hF97 := pm_fr.tr hF19 hF95 (by decide)
          have e98 : V92 72 1 = 63 := by rw [hF95 72 (by decide)]; exact e20
          have e99 : V92 72 0 = 3 := by rw [hF95 72 (by decide)]; exact e90
          refine pm_aload_n hC 0 (by decide) dX3_readLine_31 rfl ?_
          refine pm_iconst (v := 0) hC dX3_readLine_32 ?_
          have q103 : 63 ≤ V92 72 1 ∧ V92 72 1 ≤ 63 := by (have e : V92 72 1 = 63 := e98); rw [e]; exact ⟨by decide, by decide⟩
          refine pm_callV (ci := 3) (as := [(0, 0)]) (st := []) hC 72 fC_X3_readSum_63_d0 lm_X3_46 li_X3_readSum (by decide) (by decide) rfl rfl rfl (by decide) rfl rfl (Nat.le_of_ble_eq_true rfl) ⟨Nat.le_refl _, Or.inl rfl⟩ dX3_readLine_33 ⟨rfl, hV94, q103⟩ (fun r100 V101 hp102 => ?_)
          obtain ⟨y104, rfl, b105, hV106, hF107, hE108⟩ := hp102
          replace hb23 := hb23.trans (pf_call_eq hE108)
          change pm_J X 36 [(0, (3, 72)), (1, (0, x13)), (2, (0, x15))] [(0, y104)] 118 V101
          have hF109 := pm_fr.tr hF97 hF107 (by decide)
          have e110 : V101 72 1 = 63 := by rw [hF107 72 (by decide)]; exact e98
          have e111 : V101 72 0 = 3 := by rw [hF107 72 (by decide)]; exact e99
          refine pm_if_eq (tgt := 46) hC ⟨by omega, by omega⟩ dX3_readLine_36 (by decide) (fun c112 => ?_) (fun c112 => ?_)
          · skip
            replace hb23 := hb23.trans (if_pos c112)
            refine pm_iconst (v := 0) hC dX3_readLine_46 ?_
            have hT := hT.trans (pf_val_inr hb23)
            exact pm_iret hC hR (pm_narZ (by omega)) ⟨0, rfl, ⟨by omega, by omega⟩, hV106, hF109, hT⟩ dX3_readLine_47
          · skip
            replace hb23 := hb23.trans (if_neg c112)
            refine pm_aload_n hC 0 (by decide) dX3_readLine_39 rfl ?_
            obtain ⟨y113, e114⟩ : ∃ y, V101 3 3 = y := ⟨_, rfl⟩
            have b115 := hV106.get 3 3 (lo := (-9223372036854775808)) (hi := 9223372036854775807) (by decide) (by decide) rfl
            rw [e114] at b115
            replace hb23 := hb23.trans (pf_let_eq e114)
            have q119 : 63 ≤ V101 72 1 ∧ V101 72 1 ≤ 63 := by (have e : V101 72 1 = 63 := e110); rw [e]; exact ⟨by decide, by decide⟩
            refine pm_callV (ci := 3) (as := []) (st := []) hC 72 fC_X3_isComparison_63 lm_X3_50 li_X3_isComparison (by decide) (by decide) rfl rfl rfl (by decide) rfl rfl (Nat.le_of_ble_eq_true rfl) ⟨Nat.le_refl _, Or.inl rfl⟩ dX3_readLine_40 ⟨rfl, hV106, q119⟩ (fun r116 V117 hp118 => ?_)
            obtain ⟨y120, rfl, b121, rfl, hE122⟩ := hp118
            replace hb23 := hb23.trans (pf_call_eq hE122)
            change pm_J X 43 [(0, (3, 72)), (1, (0, x13)), (2, (0, x15))] [(0, y120)] 118 V101
            refine pm_if_ne (tgt := 48) hC ⟨by omega, by omega⟩ dX3_readLine_43 (by decide) (fun c123 => ?_) (fun c123 => ?_)
            · skip
              replace hb23 := hb23.trans (if_pos c123)
              refine pm_aload_n hC 0 (by decide) dX3_readLine_48 rfl ?_
              refine pm_getf (v := 3) hC 72 fl_X3_9 rfl rfl (by decide) rfl e111 dX3_readLine_49 ?_
              refine pm_getf (v := y113) hC 3 fl_X3_53 rfl rfl (by decide) rfl e114 dX3_readLine_52 ?_
              refine pm_l2i hC dX3_readLine_55 ?_
              refine pm_istore_n (lv' := [(3, (0, y113)), (0, (3, 72)), (1, (0, x13)), (2, (0, x15))]) hC dX3_readLine_56 (by decide) rfl ?_
              refine pm_aload_n hC 1 (by decide) dX3_readLine_57 rfl ?_
              refine pm_getf (v := 3) hC 72 fl_X3_9 rfl rfl (by decide) rfl e111 dX3_readLine_58 ?_
              refine pm_callV (ci := 9) (as := []) (st := []) hC 3 fC_X9_step lm_X3_43 li_X9_step (by decide) (by decide) rfl rfl rfl (by decide) rfl rfl (Nat.le_of_ble_eq_true rfl) ⟨Nat.le_refl _, Or.inl rfl⟩ dX3_readLine_61 ⟨rfl, hV106⟩ (fun r124 V125 hp126 => ?_)
              obtain ⟨rfl, hV127, hF128, hE129⟩ := hp126
              replace hb23 := hb23.trans (pf_call_eq hE129)
              change pm_J X 64 [(3, (0, y113)), (0, (3, 72)), (1, (0, x13)), (2, (0, x15))] [] 118 V125
              have hF130 := pm_fr.tr hF109 hF128 (by decide)
              have e131 : V125 72 1 = 63 := by rw [hF128 72 (by decide)]; exact e110
              have e132 : V125 72 0 = 3 := by rw [hF128 72 (by decide)]; exact e111
              refine pm_aload_n hC 1 (by decide) dX3_readLine_64 rfl ?_
              refine pm_iconst (v := 0) hC dX3_readLine_65 ?_
              have q136 : 63 ≤ V125 72 1 ∧ V125 72 1 ≤ 63 := by (have e : V125 72 1 = 63 := e131); rw [e]; exact ⟨by decide, by decide⟩
              refine pm_callV (ci := 3) (as := [(0, 0)]) (st := []) hC 72 fC_X3_readSum_63_d0 lm_X3_46 li_X3_readSum (by decide) (by decide) rfl rfl rfl (by decide) rfl rfl (Nat.le_of_ble_eq_true rfl) ⟨Nat.le_refl _, Or.inl rfl⟩ dX3_readLine_66 ⟨rfl, hV127, q136⟩ (fun r133 V134 hp135 => ?_)
              obtain ⟨y137, rfl, b138, hV139, hF140, hE141⟩ := hp135
              replace hb23 := hb23.trans (pf_call_eq hE141)
              change pm_J X 69 [(3, (0, y113)), (0, (3, 72)), (1, (0, x13)), (2, (0, x15))] [(0, y137)] 118 V134
              have hF142 := pm_fr.tr hF130 hF140 (by decide)
              have e143 : V134 72 1 = 63 := by rw [hF140 72 (by decide)]; exact e131
              have e144 : V134 72 0 = 3 := by rw [hF140 72 (by decide)]; exact e132
              refine pm_if_ne (tgt := 74) hC ⟨by omega, by omega⟩ dX3_readLine_69 (by decide) (fun c145 => ?_) (fun c145 => ?_)
              · skip
                replace hb23 := hb23.trans (if_pos c145)
                refine pm_aload_n hC 1 (by decide) dX3_readLine_74 rfl ?_
                refine pm_getf (v := 63) hC 72 fl_X3_15 rfl rfl (by decide) rfl e143 dX3_readLine_75 ?_
                refine pm_sipush (v := 20000) hC dX3_readLine_78 (by decide) ?_
                refine pm_iload_n hC 0 dX3_readLine_81 rfl ?_
                refine pm_iadd hC dX3_readLine_82 ?_
                refine pm_callV (ci := 2) (as := [(0, (20000 + y113))]) (st := []) hC 63 (fC_X2_emit_63 (20000 + y113) ⟨by omega, by omega⟩) lm_X3_57 li_X2_emit (by decide) (by decide) rfl rfl rfl (by decide) rfl rfl (Nat.le_of_ble_eq_true rfl) ⟨Nat.le_refl _, Or.inl rfl⟩ dX3_readLine_83 ⟨rfl, hV139⟩ (fun r146 V147 hp148 => ?_)
                obtain ⟨rfl, hV149, hF150, hE151⟩ := hp148
                replace hb23 := hb23.trans (pf_call_eq hE151)
                change pm_J X 86 [(3, (0, y113)), (0, (3, 72)), (1, (0, x13)), (2, (0, x15))] [] 118 V147
                have hF152 := pm_fr.tr hF142 hF150 (by decide)
                have e153 : V147 72 1 = 63 := by rw [hF150 72 (by decide)]; exact e143
                have e154 : V147 72 0 = 3 := by rw [hF150 72 (by decide)]; exact e144
                refine pm_aload_n hC 1 (by decide) dX3_readLine_86 rfl ?_
                refine pm_getf (v := 3) hC 72 fl_X3_9 rfl rfl (by decide) rfl e154 dX3_readLine_87 ?_
                refine pm_ldc2 (v := 6385252) hC 3148 dX3_readLine_90 (by decide +kernel) ?_
                refine pm_callV (ci := 9) (as := [(1, 6385252)]) (st := []) hC 3 (fC_X9_isWord 6385252 ⟨by decide, by decide⟩) lm_X3_63 li_X9_isWord (by decide) (by decide) rfl rfl rfl (by decide) rfl rfl (Nat.le_of_ble_eq_true rfl) ⟨Nat.le_refl _, Or.inl rfl⟩ dX3_readLine_93 ⟨rfl, hV149⟩ (fun r155 V156 hp157 => ?_)
                obtain ⟨y158, rfl, b159, rfl, hE160⟩ := hp157
                replace hb23 := hb23.trans (pf_call_eq hE160)
                change pm_J X 96 [(3, (0, y113)), (0, (3, 72)), (1, (0, x13)), (2, (0, x15))] [(0, y158)] 118 V147
                refine pm_istore_n (lv' := [(1, (0, y158)), (3, (0, y113)), (0, (3, 72)), (2, (0, x15))]) hC dX3_readLine_96 (by decide) rfl ?_
                obtain ⟨x161, ei162⟩ : ∃ y : Int, x15 + 1 = y := ⟨_, rfl⟩
                replace hb23 := hb23.trans (pf_let_eq ei162)
                refine pm_iinc (y := x161) (lv' := [(2, (0, x161)), (1, (0, y158)), (3, (0, y113)), (0, (3, 72))]) hC 3 dX3_readLine_97 (by decide) rfl ei162 rfl ?_
                refine pm_goto (tgt := 13) hC dX3_readLine_100 (by decide) ?_
                refine pm_lvsub [3, 1, 0] (lv' := [(0, (3, 72)), (1, (0, y158)), (2, (0, x161))]) rfl ?_
                exact ih27 _ (by omega) y158 x161 V147 ⟨by omega, by omega⟩ ⟨by omega, by omega⟩ hV149 hF152 e153 (hT.trans (pf_val_inl hb23)) rfl
              · skip
                replace hb23 := hb23.trans (if_neg (fun q => q c145))
                refine pm_iconst (v := 0) hC dX3_readLine_72 ?_
                have hT := hT.trans (pf_val_inr hb23)
                exact pm_iret hC hR (pm_narZ (by omega)) ⟨0, rfl, ⟨by omega, by omega⟩, hV139, hF142, hT⟩ dX3_readLine_73
            · skip
              replace hb23 := hb23.trans (if_neg (fun q => q c123))
              refine pm_iconst (v := 0) hC dX3_readLine_46 ?_
              have hT := hT.trans (pf_val_inr hb23)
              exact pm_iret hC hR (pm_narZ (by omega)) ⟨0, rfl, ⟨by omega, by omega⟩, hV106, hF109, hT⟩ dX3_readLine_47
    refine pm_lvsub [2, 1, 0] (lv' := [(0, (3, 72)), (1, (0, 1)), (2, (0, 0))]) rfl ?_
    exact L24 _ 1 0 V2 ⟨by decide, by decide⟩ ⟨by decide, by decide⟩ hV7 hF10 e11 hT rfl
  · skip
    replace hT := hT.trans (if_neg (fun q => q c12))
    refine pm_iconst (v := 0) hC dX3_readLine_7 ?_
    exact pm_iret hC hR (pm_narZ (by omega)) ⟨0, rfl, ⟨by omega, by omega⟩, hV7, hF10, hT⟩ dX3_readLine_8
set_option maxHeartbeats 4000000 in
set_option maxRecDepth 100000 in
theorem fC_X3_read_63  : pm_K 31 yX3_read cX3_read 4 (some .int) (fun av V => av = [(3, 72), (3, 63)] ∧ pm_ok 0 90 V) (fun _ V r V' => ∃ y, r = some (0, y) ∧ ((-1) ≤ y ∧ y ≤ 500) ∧ pm_ok 0 90 V' ∧ pm_fr [3, 63, 64, 65, 66, 67, 72] V V' ∧ F_X3_read 63 V = (y, V')) := by
  refine pm_MT.of (by decide) ⟨Nat.le_refl _, by decide⟩ (fun av V h => by rw [h.1]; exact (by decide : pm_words [(3, 0), (3, 0)] ≤ 4)) ?_
  rintro X av V0 hC - hR ⟨rfl, hV0⟩
  change pm_J X 0 [(0, (3, 72)), (1, (3, 63))] [] 118 V0
  have hT := F_X3_read_eq 63 V0
  refine pm_aload_n hC 0 (by decide) dX3_read_0 rfl ?_
  refine pm_aload_n hC 1 (by decide) dX3_read_1 rfl ?_
  refine pm_putf hC 72 fl_X3_15 rfl rfl rfl (by decide) rfl trivial dX3_read_2 ?_
  refine pm_aload_n hC 0 (by decide) dX3_read_5 rfl ?_
  refine pm_getf (v := 63) hC 72 fl_X3_15 rfl rfl (by decide) rfl rfl dX3_read_6 ?_
  refine pm_callV (ci := 2) (as := []) (st := []) hC 63 fC_X2_clear_63 lm_X3_19 li_X2_clear (by decide) (by decide) rfl rfl rfl (by decide) rfl rfl (Nat.le_of_ble_eq_true rfl) ⟨Nat.le_refl _, Or.inl rfl⟩ dX3_read_9 ⟨rfl, (hV0.put2 72 1 (x := 63) (lo := 57) (hi := 63) rfl ⟨by omega, by decide⟩)⟩ (fun r1 V2 hp3 => ?_)
  obtain ⟨rfl, hV4, hF5, hE6⟩ := hp3
  replace hT := hT.trans (pf_call_eq hE6)
  change pm_J X 12 [(0, (3, 72)), (1, (3, 63))] [] 118 V2
  have hF7 := pm_fr.tr ((pm_fr.rf (ws := [3, 63, 64, 65, 66, 67, 72]) (V := V0)).up 72 1 63 rfl) hF5 (by decide)
  have e8 : V2 72 1 = 63 := by rw [hF5 72 (by decide)]; rfl
  refine pm_aload_n hC 0 (by decide) dX3_read_12 rfl ?_
  have e9 : V2 72 0 = 3 := hV4.one 72 0 (by decide) (by decide) rfl
  refine pm_getf (v := 3) hC 72 fl_X3_9 rfl rfl (by decide) rfl e9 dX3_read_13 ?_
  refine pm_callV (ci := 9) (as := []) (st := []) hC 3 fC_X9_begin lm_X3_24 li_X9_begin (by decide) (by decide) rfl rfl rfl (by decide) rfl rfl (Nat.le_of_ble_eq_true rfl) ⟨Nat.le_refl _, Or.inl rfl⟩ dX3_read_16 ⟨rfl, hV4⟩ (fun r10 V11 hp12 => ?_)
  obtain ⟨rfl, hV13, hF14, hE15⟩ := hp12
  replace hT := hT.trans (pf_call_eq hE15)
  change pm_J X 19 [(0, (3, 72)), (1, (3, 63))] [] 118 V11
  have hF16 := pm_fr.tr hF7 hF14 (by decide)
  have e17 : V11 72 1 = 63 := by rw [hF14 72 (by decide)]; exact e8
  have e18 : V11 72 0 = 3 := by rw [hF14 72 (by decide)]; exact e9
  refine pm_aload_n hC 0 (by decide) dX3_read_19 rfl ?_
  have q22 : 63 ≤ V11 72 1 ∧ V11 72 1 ≤ 63 := by (have e : V11 72 1 = 63 := e17); rw [e]; exact ⟨by decide, by decide⟩
  refine pm_callV (ci := 3) (as := []) (st := []) hC 72 fC_X3_readLine_63 lm_X3_29 li_X3_readLine (by decide) (by decide) rfl rfl rfl (by decide) rfl rfl (Nat.le_of_ble_eq_true rfl) ⟨Nat.le_refl _, Or.inl rfl⟩ dX3_read_20 ⟨rfl, hV13, q22⟩ (fun r19 V20 hp21 => ?_)
  obtain ⟨y23, rfl, b24, hV25, hF26, hE27⟩ := hp21
  replace hT := hT.trans (pf_call_eq hE27)
  change pm_J X 23 [(0, (3, 72)), (1, (3, 63))] [(0, y23)] 118 V20
  have hF28 := pm_fr.tr hF16 hF26 (by decide)
  have e29 : V20 72 1 = 63 := by rw [hF26 72 (by decide)]; exact e17
  have e30 : V20 72 0 = 3 := by rw [hF26 72 (by decide)]; exact e18
  refine pm_istore_n (lv' := [(2, (0, y23)), (0, (3, 72)), (1, (3, 63))]) hC dX3_read_23 (by decide) rfl ?_
  refine pm_iconst (v := 0) hC dX3_read_24 ?_
  refine pm_istore_n (lv' := [(3, (0, 0)), (2, (0, y23)), (0, (3, 72)), (1, (3, 63))]) hC dX3_read_25 (by decide) rfl ?_
  obtain ⟨B40, hB41, hT⟩ := pf_loop hT
  have L43 : ∀ (N45 : Nat) (x31 : Int) (x33 : Int) (V35 : pm_M), (0 ≤ x31 ∧ x31 ≤ 1) → (0 ≤ x33 ∧ x33 ≤ 500) → pm_ok 0 90 V35 → pm_fr [3, 63, 64, 65, 66, 67, 72] V0 V35 → V35 72 1 = 63 → V35 72 0 = 3 → F_X3_read 63 V0 = pf_val ((0 : Int), V0) B40 (x31, x33, V35) → (Int.toNat (500 - x33)) = N45 → pm_J X 26 [(0, (3, 72)), (1, (3, 63)), (2, (0, x31)), (3, (0, x33))] [] 118 V35 := by
    intro N45
    induction N45 using Nat.strongRecOn with
    | _ N45 ih46 =>
    intro x31 x33 V35 b32 b34 hV36 hF37 e38 e39 hT hm44
    have hb42 := congrFun hB41 (x31, x33, V35)
    refine pm_iload_n hC 3 dX3_read_26 rfl ?_
    refine pm_sipush (v := 500) hC dX3_read_27 (by decide) ?_
    refine pm_icmp_ge (tgt := 58) hC ⟨by omega, by omega⟩ ⟨by decide, by decide⟩ dX3_read_30 (by decide) (fun c47 => ?_) (fun c47 => ?_)
    · skip
      replace hb42 := hb42.trans (if_pos c47)
      refine pm_iload_n hC 2 dX3_read_58 rfl ?_
      refine pm_if_eq (tgt := 66) hC ⟨by omega, by omega⟩ dX3_read_59 (by decide) (fun c48 => ?_) (fun c48 => ?_)
      · skip
        replace hb42 := hb42.trans (if_pos c48)
        refine pm_aload_n hC 0 (by decide) dX3_read_66 rfl ?_
        refine pm_getf (v := 3) hC 72 fl_X3_9 rfl rfl (by decide) rfl e39 dX3_read_67 ?_
        obtain ⟨y49, e50⟩ : ∃ y, V35 3 2 = y := ⟨_, rfl⟩
        have b51 := hV36.get 3 2 (lo := 0) (hi := 500) (by decide) (by decide) rfl
        rw [e50] at b51
        replace hb42 := hb42.trans (pf_let_eq e50)
        refine pm_getf (v := y49) hC 3 fl_X3_37 rfl rfl (by decide) rfl e50 dX3_read_70 ?_
        have hT := hT.trans (pf_val_inr hb42)
        exact pm_iret hC hR pm_nar0 ⟨y49, rfl, ⟨by omega, by omega⟩, hV36, hF37, hT⟩ dX3_read_73
      · skip
        replace hb42 := hb42.trans (if_neg c48)
        refine pm_iconst (v := (-1)) hC dX3_read_62 ?_
        refine pm_goto (tgt := 73) hC dX3_read_63 (by decide) ?_
        have hT := hT.trans (pf_val_inr hb42)
        exact pm_iret hC hR pm_nar0 ⟨(-1), rfl, ⟨by omega, by omega⟩, hV36, hF37, hT⟩ dX3_read_73
    · skip
      replace hb42 := hb42.trans (if_neg (Int.not_le.mpr c47))
      refine pm_iload_n hC 2 dX3_read_33 rfl ?_
      refine pm_if_eq (tgt := 58) hC ⟨by omega, by omega⟩ dX3_read_34 (by decide) (fun c52 => ?_) (fun c52 => ?_)
      · skip
        replace hb42 := hb42.trans (if_pos c52)
        refine pm_iload_n hC 2 dX3_read_58 rfl ?_
        refine pm_if_eq (tgt := 66) hC ⟨by omega, by omega⟩ dX3_read_59 (by decide) (fun c53 => ?_) (fun c53 => ?_)
        · skip
          replace hb42 := hb42.trans (if_pos c53)
          refine pm_aload_n hC 0 (by decide) dX3_read_66 rfl ?_
          refine pm_getf (v := 3) hC 72 fl_X3_9 rfl rfl (by decide) rfl e39 dX3_read_67 ?_
          obtain ⟨y54, e55⟩ : ∃ y, V35 3 2 = y := ⟨_, rfl⟩
          have b56 := hV36.get 3 2 (lo := 0) (hi := 500) (by decide) (by decide) rfl
          rw [e55] at b56
          replace hb42 := hb42.trans (pf_let_eq e55)
          refine pm_getf (v := y54) hC 3 fl_X3_37 rfl rfl (by decide) rfl e55 dX3_read_70 ?_
          have hT := hT.trans (pf_val_inr hb42)
          exact pm_iret hC hR pm_nar0 ⟨y54, rfl, ⟨by omega, by omega⟩, hV36, hF37, hT⟩ dX3_read_73
        · skip
          replace hb42 := hb42.trans (if_neg c53)
          exfalso; omega
      · skip
        replace hb42 := hb42.trans (if_neg c52)
        refine pm_aload_n hC 0 (by decide) dX3_read_37 rfl ?_
        refine pm_getf (v := 3) hC 72 fl_X3_9 rfl rfl (by decide) rfl e39 dX3_read_38 ?_
        obtain ⟨y57, e58⟩ : ∃ y, V35 3 1 = y := ⟨_, rfl⟩
        have b59 := hV36.get 3 1 (lo := 0) (hi := 4) (by decide) (by decide) rfl
        rw [e58] at b59
        replace hb42 := hb42.trans (pf_let_eq e58)
        refine pm_getf (v := y57) hC 3 fl_X3_33 rfl rfl (by decide) rfl e58 dX3_read_41 ?_
        refine pm_if_eq (tgt := 58) hC ⟨by omega, by omega⟩ dX3_read_44 (by decide) (fun c60 => ?_) (fun c60 => ?_)
        · skip
          replace hb42 := hb42.trans (if_pos c60)
          refine pm_iload_n hC 2 dX3_read_58 rfl ?_
          refine pm_if_eq (tgt := 66) hC ⟨by omega, by omega⟩ dX3_read_59 (by decide) (fun c61 => ?_) (fun c61 => ?_)
          · skip
            replace hb42 := hb42.trans (if_pos c61)
            exfalso; omega
          · skip
            replace hb42 := hb42.trans (if_neg c61)
            refine pm_iconst (v := (-1)) hC dX3_read_62 ?_
            refine pm_goto (tgt := 73) hC dX3_read_63 (by decide) ?_
            have hT := hT.trans (pf_val_inr hb42)
            exact pm_iret hC hR pm_nar0 ⟨(-1), rfl, ⟨by omega, by omega⟩, hV36, hF37, hT⟩ dX3_read_73
        · skip
          replace hb42 := hb42.trans (if_neg c60)
          refine pm_aload_n hC 0 (by decide) dX3_read_47 rfl ?_
          have q65 : 63 ≤ V35 72 1 ∧ V35 72 1 ≤ 63 := by (have e : V35 72 1 = 63 := e38); rw [e]; exact ⟨by decide, by decide⟩
          refine pm_callV (ci := 3) (as := []) (st := []) hC 72 fC_X3_readLine_63 lm_X3_29 li_X3_readLine (by decide) (by decide) rfl rfl rfl (by decide) rfl rfl (Nat.le_of_ble_eq_true rfl) ⟨Nat.le_refl _, Or.inl rfl⟩ dX3_read_48 ⟨rfl, hV36, q65⟩ (fun r62 V63 hp64 => ?_)
          obtain ⟨y66, rfl, b67, hV68, hF69, hE70⟩ := hp64
          replace hb42 := hb42.trans (pf_call_eq hE70)
          change pm_J X 51 [(0, (3, 72)), (1, (3, 63)), (2, (0, x31)), (3, (0, x33))] [(0, y66)] 118 V63
          have hF71 := pm_fr.tr hF37 hF69 (by decide)
          have e72 : V63 72 1 = 63 := by rw [hF69 72 (by decide)]; exact e38
          have e73 : V63 72 0 = 3 := by rw [hF69 72 (by decide)]; exact e39
          refine pm_istore_n (lv' := [(2, (0, y66)), (0, (3, 72)), (1, (3, 63)), (3, (0, x33))]) hC dX3_read_51 (by decide) rfl ?_
          obtain ⟨x74, ei75⟩ : ∃ y : Int, x33 + 1 = y := ⟨_, rfl⟩
          replace hb42 := hb42.trans (pf_let_eq ei75)
          refine pm_iinc (y := x74) (lv' := [(3, (0, x74)), (2, (0, y66)), (0, (3, 72)), (1, (3, 63))]) hC 3 dX3_read_52 (by decide) rfl ei75 rfl ?_
          refine pm_goto (tgt := 26) hC dX3_read_55 (by decide) ?_
          refine pm_lvsub [2, 3, 1, 0] (lv' := [(0, (3, 72)), (1, (3, 63)), (2, (0, y66)), (3, (0, x74))]) rfl ?_
          exact ih46 _ (by omega) y66 x74 V63 ⟨by omega, by omega⟩ ⟨by omega, by omega⟩ hV68 hF71 e72 e73 (hT.trans (pf_val_inl hb42)) rfl
  refine pm_lvsub [2, 3, 1, 0] (lv' := [(0, (3, 72)), (1, (3, 63)), (2, (0, y23)), (3, (0, 0))]) rfl ?_
  exact L43 _ y23 0 V20 ⟨by omega, by omega⟩ ⟨by decide, by decide⟩ hV25 hF28 e29 e30 hT rfl
