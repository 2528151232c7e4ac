set_option maxHeartbeats 4000000 in
set_option maxRecDepth 100000 in
theorem fC_X3_codeOfToken_63  : pm_K 2 yX3_codeOfToken cX3_codeOfToken 1 (some .int) (fun av V => av = [(3, 72)] ∧ pm_ok 0 90 V ∧ (63 ≤ V 72 1 ∧ V 72 1 ≤ 63)) (fun _ V r V' => ∃ y, r = some (0, y) ∧ ((-1) ≤ y ∧ y ≤ 10006) ∧ V = V' ∧ F_X3_codeOfToken 63 V = (y, V)) := by
  refine pm_MT.of (by decide) ⟨Nat.le_refl _, by decide⟩ (fun av V h => by rw [h.1]; exact (by decide : pm_words [(3, 0)] ≤ 1)) ?_
  rintro X av V0 hC - hR ⟨rfl, hV0, hq0⟩
  change pm_J X 0 [(0, (3, 72))] [] 118 V0
  have hT := F_X3_codeOfToken_eq 63 V0
  obtain ⟨z0, ez0⟩ : ∃ z, V0 72 1 = z := ⟨_, rfl⟩
  rw [ez0] at hq0
  have en0 : V0 72 1 = 63 := by rw [ez0]; omega
  refine pm_aload_n hC 0 (by decide) dX3_codeOfToken_0 rfl ?_
  have e1 : V0 72 0 = 3 := hV0.one 72 0 (by decide) (by decide) rfl
  refine pm_getf (v := 3) hC 72 fl_X3_9 rfl rfl (by decide) rfl e1 dX3_codeOfToken_1 ?_
  refine pm_iconst (v := 0) hC dX3_codeOfToken_4 ?_
  refine pm_sipush (v := 9999) hC dX3_codeOfToken_5 (by decide) ?_
  obtain ⟨y2, e3⟩ : ∃ y, V0 3 3 = y := ⟨_, rfl⟩
  have b4 := hV0.get 3 3 (lo := (-9223372036854775808)) (hi := 9223372036854775807) (by decide) (by decide) rfl
  rw [e3] at b4
  replace hT := hT.trans (pf_let_eq e3)
  refine pm_callV (ci := 9) (as := [(0, 0), (0, 9999)]) (st := []) hC 3 (fC_X9_isNumber 0 9999 ⟨by decide, by decide⟩ ⟨by decide, by decide⟩) lm_X3_104 li_X9_isNumber (by decide) (by decide) rfl rfl rfl (by decide) rfl rfl (Nat.le_of_ble_eq_true rfl) ⟨Nat.le_refl _, Or.inl rfl⟩ dX3_codeOfToken_8 ⟨rfl, hV0⟩ (fun r5 V6 hp7 => ?_)
  obtain ⟨y8, rfl, b9, rfl, hE10⟩ := hp7
  replace hT := hT.trans (pf_call_eq hE10)
  change pm_J X 11 [(0, (3, 72))] [(0, y8)] 118 V0
  refine pm_if_eq (tgt := 23) hC ⟨by omega, by omega⟩ dX3_codeOfToken_11 (by decide) (fun c11 => ?_) (fun c11 => ?_)
  · skip
    replace hT := hT.trans (if_pos c11)
    refine pm_aload_n hC 0 (by decide) dX3_codeOfToken_23 rfl ?_
    refine pm_getf (v := 3) hC 72 fl_X3_9 rfl rfl (by decide) rfl e1 dX3_codeOfToken_24 ?_
    refine pm_ldc2 (v := 499967947364) hC 3132 dX3_codeOfToken_27 (by decide +kernel) ?_
    refine pm_callV (ci := 9) (as := [(1, 499967947364)]) (st := []) hC 3 (fC_X9_isWord 499967947364 ⟨by decide, by decide⟩) lm_X3_63 li_X9_isWord (by decide) (by decide) rfl rfl rfl (by decide) rfl rfl (Nat.le_of_ble_eq_true rfl) ⟨Nat.le_refl _, Or.inl rfl⟩ dX3_codeOfToken_30 ⟨rfl, hV0⟩ (fun r12 V13 hp14 => ?_)
    obtain ⟨y15, rfl, b16, rfl, hE17⟩ := hp14
    replace hT := hT.trans (pf_call_eq hE17)
    change pm_J X 33 [(0, (3, 72))] [(0, y15)] 118 V0
    refine pm_if_eq (tgt := 40) hC ⟨by omega, by omega⟩ dX3_codeOfToken_33 (by decide) (fun c18 => ?_) (fun c18 => ?_)
    · skip
      replace hT := hT.trans (if_pos c18)
      refine pm_aload_n hC 0 (by decide) dX3_codeOfToken_40 rfl ?_
      refine pm_getf (v := 3) hC 72 fl_X3_9 rfl rfl (by decide) rfl e1 dX3_codeOfToken_41 ?_
      refine pm_ldc2 (v := 31084793213183332) hC 3133 dX3_codeOfToken_44 (by decide +kernel) ?_
      refine pm_callV (ci := 9) (as := [(1, 31084793213183332)]) (st := []) hC 3 (fC_X9_isWord 31084793213183332 ⟨by decide, by decide⟩) lm_X3_63 li_X9_isWord (by decide) (by decide) rfl rfl rfl (by decide) rfl rfl (Nat.le_of_ble_eq_true rfl) ⟨Nat.le_refl _, Or.inl rfl⟩ dX3_codeOfToken_47 ⟨rfl, hV0⟩ (fun r19 V20 hp21 => ?_)
      obtain ⟨y22, rfl, b23, rfl, hE24⟩ := hp21
      replace hT := hT.trans (pf_call_eq hE24)
      change pm_J X 50 [(0, (3, 72))] [(0, y22)] 118 V0
      refine pm_if_eq (tgt := 57) hC ⟨by omega, by omega⟩ dX3_codeOfToken_50 (by decide) (fun c25 => ?_) (fun c25 => ?_)
      · skip
        replace hT := hT.trans (if_pos c25)
        refine pm_aload_n hC 0 (by decide) dX3_codeOfToken_57 rfl ?_
        refine pm_getf (v := 3) hC 72 fl_X3_9 rfl rfl (by decide) rfl e1 dX3_codeOfToken_58 ?_
        refine pm_ldc2 (v := 508675318629) hC 3134 dX3_codeOfToken_61 (by decide +kernel) ?_
        refine pm_callV (ci := 9) (as := [(1, 508675318629)]) (st := []) hC 3 (fC_X9_isWord 508675318629 ⟨by decide, by decide⟩) lm_X3_63 li_X9_isWord (by decide) (by decide) rfl rfl rfl (by decide) rfl rfl (Nat.le_of_ble_eq_true rfl) ⟨Nat.le_refl _, Or.inl rfl⟩ dX3_codeOfToken_64 ⟨rfl, hV0⟩ (fun r26 V27 hp28 => ?_)
        obtain ⟨y29, rfl, b30, rfl, hE31⟩ := hp28
        replace hT := hT.trans (pf_call_eq hE31)
        change pm_J X 67 [(0, (3, 72))] [(0, y29)] 118 V0
        refine pm_if_eq (tgt := 74) hC ⟨by omega, by omega⟩ dX3_codeOfToken_67 (by decide) (fun c32 => ?_) (fun c32 => ?_)
        · skip
          replace hT := hT.trans (if_pos c32)
          refine pm_aload_n hC 0 (by decide) dX3_codeOfToken_74 rfl ?_
          refine pm_getf (v := 3) hC 72 fl_X3_9 rfl rfl (by decide) rfl e1 dX3_codeOfToken_75 ?_
          refine pm_ldc2 (v := 1717658469) hC 3135 dX3_codeOfToken_78 (by decide +kernel) ?_
          refine pm_callV (ci := 9) (as := [(1, 1717658469)]) (st := []) hC 3 (fC_X9_isWord 1717658469 ⟨by decide, by decide⟩) lm_X3_63 li_X9_isWord (by decide) (by decide) rfl rfl rfl (by decide) rfl rfl (Nat.le_of_ble_eq_true rfl) ⟨Nat.le_refl _, Or.inl rfl⟩ dX3_codeOfToken_81 ⟨rfl, hV0⟩ (fun r33 V34 hp35 => ?_)
          obtain ⟨y36, rfl, b37, rfl, hE38⟩ := hp35
          replace hT := hT.trans (pf_call_eq hE38)
          change pm_J X 84 [(0, (3, 72))] [(0, y36)] 118 V0
          refine pm_if_eq (tgt := 91) hC ⟨by omega, by omega⟩ dX3_codeOfToken_84 (by decide) (fun c39 => ?_) (fun c39 => ?_)
          · skip
            replace hT := hT.trans (if_pos c39)
            refine pm_aload_n hC 0 (by decide) dX3_codeOfToken_91 rfl ?_
            refine pm_getf (v := 3) hC 72 fl_X3_9 rfl rfl (by decide) rfl e1 dX3_codeOfToken_92 ?_
            refine pm_ldc2 (v := 474315584357) hC 3136 dX3_codeOfToken_95 (by decide +kernel) ?_
            refine pm_callV (ci := 9) (as := [(1, 474315584357)]) (st := []) hC 3 (fC_X9_isWord 474315584357 ⟨by decide, by decide⟩) lm_X3_63 li_X9_isWord (by decide) (by decide) rfl rfl rfl (by decide) rfl rfl (Nat.le_of_ble_eq_true rfl) ⟨Nat.le_refl _, Or.inl rfl⟩ dX3_codeOfToken_98 ⟨rfl, hV0⟩ (fun r40 V41 hp42 => ?_)
            obtain ⟨y43, rfl, b44, rfl, hE45⟩ := hp42
            replace hT := hT.trans (pf_call_eq hE45)
            change pm_J X 101 [(0, (3, 72))] [(0, y43)] 118 V0
            refine pm_if_eq (tgt := 108) hC ⟨by omega, by omega⟩ dX3_codeOfToken_101 (by decide) (fun c46 => ?_) (fun c46 => ?_)
            · skip
              replace hT := hT.trans (if_pos c46)
              refine pm_aload_n hC 0 (by decide) dX3_codeOfToken_108 rfl ?_
              refine pm_getf (v := 3) hC 72 fl_X3_9 rfl rfl (by decide) rfl e1 dX3_codeOfToken_109 ?_
              refine pm_ldc2 (v := 1684107883) hC 3137 dX3_codeOfToken_112 (by decide +kernel) ?_
              refine pm_callV (ci := 9) (as := [(1, 1684107883)]) (st := []) hC 3 (fC_X9_isWord 1684107883 ⟨by decide, by decide⟩) lm_X3_63 li_X9_isWord (by decide) (by decide) rfl rfl rfl (by decide) rfl rfl (Nat.le_of_ble_eq_true rfl) ⟨Nat.le_refl _, Or.inl rfl⟩ dX3_codeOfToken_115 ⟨rfl, hV0⟩ (fun r47 V48 hp49 => ?_)
              obtain ⟨y50, rfl, b51, rfl, hE52⟩ := hp49
              replace hT := hT.trans (pf_call_eq hE52)
              change pm_J X 118 [(0, (3, 72))] [(0, y50)] 118 V0
              refine pm_if_eq (tgt := 125) hC ⟨by omega, by omega⟩ dX3_codeOfToken_118 (by decide) (fun c53 => ?_) (fun c53 => ?_)
              · skip
                replace hT := hT.trans (if_pos c53)
                refine pm_aload_n hC 0 (by decide) dX3_codeOfToken_125 rfl ?_
                refine pm_getf (v := 3) hC 72 fl_X3_9 rfl rfl (by decide) rfl e1 dX3_codeOfToken_126 ?_
                refine pm_ldc2 (v := 1818326117) hC 3138 dX3_codeOfToken_129 (by decide +kernel) ?_
                refine pm_callV (ci := 9) (as := [(1, 1818326117)]) (st := []) hC 3 (fC_X9_isWord 1818326117 ⟨by decide, by decide⟩) lm_X3_63 li_X9_isWord (by decide) (by decide) rfl rfl rfl (by decide) rfl rfl (Nat.le_of_ble_eq_true rfl) ⟨Nat.le_refl _, Or.inl rfl⟩ dX3_codeOfToken_132 ⟨rfl, hV0⟩ (fun r54 V55 hp56 => ?_)
                obtain ⟨y57, rfl, b58, rfl, hE59⟩ := hp56
                replace hT := hT.trans (pf_call_eq hE59)
                change pm_J X 135 [(0, (3, 72))] [(0, y57)] 118 V0
                refine pm_if_eq (tgt := 144) hC ⟨by omega, by omega⟩ dX3_codeOfToken_135 (by decide) (fun c60 => ?_) (fun c60 => ?_)
                · skip
                  replace hT := hT.trans (if_pos c60)
                  refine pm_iconst (v := (-1)) hC dX3_codeOfToken_144 ?_
                  exact pm_iret hC hR pm_nar0 ⟨(-1), rfl, ⟨by omega, by omega⟩, rfl, hT⟩ dX3_codeOfToken_145
                · skip
                  replace hT := hT.trans (if_neg c60)
                  refine pm_sipush (v := 10006) hC dX3_codeOfToken_138 (by decide) ?_
                  refine pm_goto (tgt := 145) hC dX3_codeOfToken_141 (by decide) ?_
                  exact pm_iret hC hR pm_nar0 ⟨10006, rfl, ⟨by omega, by omega⟩, rfl, hT⟩ dX3_codeOfToken_145
              · skip
                replace hT := hT.trans (if_neg c53)
                refine pm_sipush (v := 10005) hC dX3_codeOfToken_121 (by decide) ?_
                exact pm_iret hC hR pm_nar0 ⟨10005, rfl, ⟨by omega, by omega⟩, rfl, hT⟩ dX3_codeOfToken_124
            · skip
              replace hT := hT.trans (if_neg c46)
              refine pm_sipush (v := 10004) hC dX3_codeOfToken_104 (by decide) ?_
              exact pm_iret hC hR pm_nar0 ⟨10004, rfl, ⟨by omega, by omega⟩, rfl, hT⟩ dX3_codeOfToken_107
          · skip
            replace hT := hT.trans (if_neg c39)
            refine pm_sipush (v := 10003) hC dX3_codeOfToken_87 (by decide) ?_
            exact pm_iret hC hR pm_nar0 ⟨10003, rfl, ⟨by omega, by omega⟩, rfl, hT⟩ dX3_codeOfToken_90
        · skip
          replace hT := hT.trans (if_neg c32)
          refine pm_sipush (v := 10002) hC dX3_codeOfToken_70 (by decide) ?_
          exact pm_iret hC hR pm_nar0 ⟨10002, rfl, ⟨by omega, by omega⟩, rfl, hT⟩ dX3_codeOfToken_73
      · skip
        replace hT := hT.trans (if_neg c25)
        refine pm_sipush (v := 10001) hC dX3_codeOfToken_53 (by decide) ?_
        exact pm_iret hC hR pm_nar0 ⟨10001, rfl, ⟨by omega, by omega⟩, rfl, hT⟩ dX3_codeOfToken_56
    · skip
      replace hT := hT.trans (if_neg c18)
      refine pm_sipush (v := 10000) hC dX3_codeOfToken_36 (by decide) ?_
      exact pm_iret hC hR pm_nar0 ⟨10000, rfl, ⟨by omega, by omega⟩, rfl, hT⟩ dX3_codeOfToken_39
  · skip
    replace hT := hT.trans (if_neg c11)
    refine pm_aload_n hC 0 (by decide) dX3_codeOfToken_14 rfl ?_
    refine pm_getf (v := 3) hC 72 fl_X3_9 rfl rfl (by decide) rfl e1 dX3_codeOfToken_15 ?_
    refine pm_getf (v := y2) hC 3 fl_X3_53 rfl rfl (by decide) rfl e3 dX3_codeOfToken_18 ?_
    refine pm_l2i hC dX3_codeOfToken_21 ?_
    exact pm_iret hC hR pm_nar0 ⟨y2, rfl, ⟨by omega, by omega⟩, rfl, hT⟩ dX3_codeOfToken_22
set_option maxHeartbeats 4000000 in
set_option maxRecDepth 100000 in
theorem fC_X2_emit_63 (a1 : Int) (h0 : 0 ≤ a1 ∧ a1 ≤ 30000) : pm_K 1 yX2_emit cX2_emit 2 none (fun av V => av = [(3, 63), (0, a1)] ∧ pm_ok 0 90 V) (fun _ V r V' => r = none ∧ pm_ok 0 90 V' ∧ pm_fr [63, 67] V V' ∧ F_X2_emit 63 a1 V = (0, V')) := by
  refine pm_MT.of (by decide) ⟨Nat.le_refl _, by decide⟩ (fun av V h => by rw [h.1]; exact (by decide : pm_words [(3, 0), (0, 0)] ≤ 2)) ?_
  rintro X av V0 hC - hR ⟨rfl, hV0⟩
  change pm_J X 0 [(0, (3, 63)), (1, (0, a1))] [] 118 V0
  have hT := F_X2_emit_eq 63 a1 V0
  refine pm_aload_n hC 0 (by decide) dX2_emit_0 rfl ?_
  obtain ⟨y1, e2⟩ : ∃ y, V0 63 5 = y := ⟨_, rfl⟩
  have b3 := hV0.get 63 5 (lo := 0) (hi := 500) (by decide) (by decide) rfl
  rw [e2] at b3
  replace hT := hT.trans (pf_let_eq e2)
  refine pm_getf (v := y1) hC 63 fl_X2_28 rfl rfl (by decide) rfl e2 dX2_emit_1 ?_
  refine pm_aload_n hC 0 (by decide) dX2_emit_4 rfl ?_
  have e4 : V0 63 4 = 67 := hV0.one 63 4 (by decide) (by decide) rfl
  refine pm_getf (v := 67) hC 63 fl_X2_25 rfl rfl (by decide) rfl e4 dX2_emit_5 ?_
  refine pm_alen hC 67 rfl (by decide) rfl (by decide) dX2_emit_8 ?_
  change pm_J X 9 [(0, (3, 63)), (1, (0, a1))] [(0, 500), (0, y1)] 118 V0
  refine pm_icmp_ge (tgt := 32) hC ⟨by omega, by omega⟩ ⟨by decide, by decide⟩ dX2_emit_9 (by decide) (fun c5 => ?_) (fun c5 => ?_)
  · skip
    replace hT := hT.trans (if_pos c5)
    exact pm_vret hC hR ⟨rfl, hV0, (pm_fr.rf (ws := [63, 67]) (V := V0)), hT⟩ dX2_emit_32
  · skip
    replace hT := hT.trans (if_neg (Int.not_le.mpr c5))
    refine pm_aload_n hC 0 (by decide) dX2_emit_12 rfl ?_
    refine pm_getf (v := 67) hC 63 fl_X2_25 rfl rfl (by decide) rfl e4 dX2_emit_13 ?_
    refine pm_aload_n hC 0 (by decide) dX2_emit_16 rfl ?_
    refine pm_getf (v := y1) hC 63 fl_X2_28 rfl rfl (by decide) rfl e2 dX2_emit_17 ?_
    refine pm_iload_n hC 1 dX2_emit_20 rfl ?_
    refine pm_iastore (len := 500) hC 67 rfl rfl (by decide) ⟨by omega, by omega⟩ (by decide) dX2_emit_21 ?_
    refine pm_aload_n hC 0 (by decide) dX2_emit_22 rfl ?_
    refine pm_dup hC rfl dX2_emit_23 ?_
    refine pm_getf (v := y1) hC 63 fl_X2_28 rfl rfl (by decide) rfl e2 dX2_emit_24 ?_
    refine pm_iconst (v := 1) hC dX2_emit_27 ?_
    refine pm_iadd hC dX2_emit_28 ?_
    refine pm_putf hC 63 fl_X2_28 rfl rfl rfl (by decide) rfl trivial dX2_emit_29 ?_
    exact pm_vret hC hR ⟨rfl, ((hV0.put 67 (y1 : Int).toNat (x := a1) (lo := 0) (hi := 30000) rfl ⟨by omega, by omega⟩).put 63 5 (x := (y1 + 1)) (lo := 0) (hi := 500) rfl ⟨by omega, by omega⟩), (((pm_fr.rf (ws := [63, 67]) (V := V0)).up 67 (y1 : Int).toNat a1 rfl).up 63 5 (y1 + 1) rfl), hT⟩ dX2_emit_32
set_option maxHeartbeats 4000000 in
set_option maxRecDepth 100000 in
theorem fC_X3_readFactor_63_d8  : pm_K 3 yX3_readFactor cX3_readFactor 3 (some .boolean) (fun av V => av = [(3, 72), (0, 8)] ∧ pm_ok 0 90 V ∧ (63 ≤ V 72 1 ∧ V 72 1 ≤ 63)) (fun _ V r V' => ∃ y, r = some (0, y) ∧ (0 ≤ y ∧ y ≤ 1) ∧ pm_ok 0 90 V' ∧ pm_fr [3, 63, 67] V V' ∧ pf_fac 63 0 V = (y, V')) := by
  refine pm_MT.of (by decide) ⟨Nat.le_refl _, by decide⟩ (fun av V h => by rw [h.1]; exact (by decide : pm_words [(3, 0), (0, 0)] ≤ 3)) ?_
  rintro X av V0 hC - hR ⟨rfl, hV0, hq0⟩
  change pm_J X 0 [(0, (3, 72)), (1, (0, 8))] [] 118 V0
  have hT := F_X3_readFactorZ_eq 63 V0
  obtain ⟨z0, ez0⟩ : ∃ z, V0 72 1 = z := ⟨_, rfl⟩
  rw [ez0] at hq0
  have en0 : V0 72 1 = 63 := by rw [ez0]; omega
  refine pm_aload_n hC 0 (by decide) dX3_readFactor_0 rfl ?_
  have q4 : 63 ≤ V0 72 1 ∧ V0 72 1 ≤ 63 := by (have e : V0 72 1 = 63 := en0); rw [e]; exact ⟨by decide, by decide⟩
  refine pm_callV (ci := 3) (as := []) (st := []) hC 72 fC_X3_codeOfToken_63 lm_X3_93 li_X3_codeOfToken (by decide) (by decide) rfl rfl rfl (by decide) rfl rfl (Nat.le_of_ble_eq_true rfl) ⟨Nat.le_refl _, Or.inl rfl⟩ dX3_readFactor_1 ⟨rfl, hV0, q4⟩ (fun r1 V2 hp3 => ?_)
  obtain ⟨y5, rfl, b6, rfl, hE7⟩ := hp3
  replace hT := hT.trans (pf_call_eq hE7)
  change pm_J X 4 [(0, (3, 72)), (1, (0, 8))] [(0, y5)] 118 V0
  refine pm_istore_n (lv' := [(2, (0, y5)), (0, (3, 72)), (1, (0, 8))]) hC dX3_readFactor_4 (by decide) rfl ?_
  refine pm_iload_n hC 0 dX3_readFactor_5 rfl ?_
  refine pm_iconst (v := (-1)) hC dX3_readFactor_6 ?_
  refine pm_icmp_eq (tgt := 27) hC ⟨by omega, by omega⟩ ⟨by decide, by decide⟩ dX3_readFactor_7 (by decide) (fun c8 => ?_) (fun c8 => ?_)
  · skip
    replace hT := hT.trans (if_pos c8)
    refine pm_iload_n hC 2 dX3_readFactor_27 rfl ?_
    refine pm_bipush (v := 8) hC dX3_readFactor_28 (by decide) ?_
    refine pm_icmp_ge (tgt := 45) hC ⟨by decide, by decide⟩ ⟨by decide, by decide⟩ dX3_readFactor_30 (by decide) (fun c9 => ?_) (fun c9 => ?_)
    · skip
      refine pm_iconst (v := 0) hC dX3_readFactor_45 ?_
      exact pm_iret hC hR (pm_narZ (by omega)) ⟨0, rfl, ⟨by omega, by omega⟩, hV0, (pm_fr.rf (ws := [3, 63, 67]) (V := V0)), hT⟩ dX3_readFactor_46
    · skip
      exfalso; omega
  · skip
    replace hT := hT.trans (if_neg c8)
    refine pm_aload_n hC 1 (by decide) dX3_readFactor_10 rfl ?_
    refine pm_getf (v := 63) hC 72 fl_X3_15 rfl rfl (by decide) rfl en0 dX3_readFactor_11 ?_
    refine pm_iload_n hC 0 dX3_readFactor_14 rfl ?_
    refine pm_callV (ci := 2) (as := [(0, y5)]) (st := []) hC 63 (fC_X2_emit_63 y5 ⟨by omega, by omega⟩) lm_X3_57 li_X2_emit (by decide) (by decide) rfl rfl rfl (by decide) rfl rfl (Nat.le_of_ble_eq_true rfl) ⟨Nat.le_refl _, Or.inl rfl⟩ dX3_readFactor_15 ⟨rfl, hV0⟩ (fun r10 V11 hp12 => ?_)
    obtain ⟨rfl, hV13, hF14, hE15⟩ := hp12
    replace hT := hT.trans (pf_call_eq hE15)
    change pm_J X 18 [(2, (0, y5)), (0, (3, 72)), (1, (0, 8))] [] 118 V11
    have hF16 := pm_fr.tr (pm_fr.rf (ws := [3, 63, 67]) (V := V0)) hF14 (by decide)
    have e17 : V11 72 1 = 63 := by rw [hF14 72 (by decide)]; exact en0
    refine pm_aload_n hC 1 (by decide) dX3_readFactor_18 rfl ?_
    have e18 : V11 72 0 = 3 := hV13.one 72 0 (by decide) (by decide) rfl
    refine pm_getf (v := 3) hC 72 fl_X3_9 rfl rfl (by decide) rfl e18 dX3_readFactor_19 ?_
    refine pm_callV (ci := 9) (as := []) (st := []) hC 3 fC_X9_step lm_X3_43 li_X9_step (by decide) (by decide) rfl rfl rfl (by decide) rfl rfl (Nat.le_of_ble_eq_true rfl) ⟨Nat.le_refl _, Or.inl rfl⟩ dX3_readFactor_22 ⟨rfl, hV13⟩ (fun r19 V20 hp21 => ?_)
    obtain ⟨rfl, hV22, hF23, hE24⟩ := hp21
    replace hT := hT.trans (pf_call_eq hE24)
    change pm_J X 25 [(2, (0, y5)), (0, (3, 72)), (1, (0, 8))] [] 118 V20
    have hF25 := pm_fr.tr hF16 hF23 (by decide)
    have e26 : V20 72 1 = 63 := by rw [hF23 72 (by decide)]; exact e17
    have e27 : V20 72 0 = 3 := by rw [hF23 72 (by decide)]; exact e18
    refine pm_iconst (v := 1) hC dX3_readFactor_25 ?_
    exact pm_iret hC hR (pm_narZ (by omega)) ⟨1, rfl, ⟨by omega, by omega⟩, hV22, hF25, hT⟩ dX3_readFactor_26
set_option maxHeartbeats 4000000 in
set_option maxRecDepth 100000 in
theorem fC_X3_readProduct_63_d8  : pm_K 4 yX3_readProduct cX3_readProduct 3 (some .boolean) (fun av V => av = [(3, 72), (0, 8)] ∧ pm_ok 0 90 V ∧ (63 ≤ V 72 1 ∧ V 72 1 ≤ 63)) (fun _ V r V' => ∃ y, r = some (0, y) ∧ (0 ≤ y ∧ y ≤ 1) ∧ pm_ok 0 90 V' ∧ pm_fr [3, 63, 67] V V' ∧ F_X3_readProduct 63 (pf_fac 63 0) V = (y, V')) := by
  refine pm_MT.of (by decide) ⟨Nat.le_refl _, by decide⟩ (fun av V h => by rw [h.1]; exact (by decide : pm_words [(3, 0), (0, 0)] ≤ 3)) ?_
  rintro X av V0 hC - hR ⟨rfl, hV0, hq0⟩
  change pm_J X 0 [(0, (3, 72)), (1, (0, 8))] [] 118 V0
  have hT := F_X3_readProduct_eq 63 (pf_fac 63 0) V0
  obtain ⟨z0, ez0⟩ : ∃ z, V0 72 1 = z := ⟨_, rfl⟩
  rw [ez0] at hq0
  have en0 : V0 72 1 = 63 := by rw [ez0]; omega
  refine pm_aload_n hC 0 (by decide) dX3_readProduct_0 rfl ?_
  refine pm_iload_n hC 1 dX3_readProduct_1 rfl ?_
  have q4 : 63 ≤ V0 72 1 ∧ V0 72 1 ≤ 63 := by (have e : V0 72 1 = 63 := en0); rw [e]; exact ⟨by decide, by decide⟩
  refine pm_callV (ci := 3) (as := [(0, 8)]) (st := []) hC 72 fC_X3_readFactor_63_d8 lm_X3_90 li_X3_readFactor (by decide) (by decide) rfl rfl rfl (by decide) rfl rfl (Nat.le_of_ble_eq_true rfl) ⟨Nat.le_refl _, Or.inl rfl⟩ dX3_readProduct_2 ⟨rfl, hV0, q4⟩ (fun r1 V2 hp3 => ?_)
  obtain ⟨y5, rfl, b6, hV7, hF8, hE9⟩ := hp3
  replace hT := hT.trans (pf_call_eq hE9)
  change pm_J X 5 [(0, (3, 72)), (1, (0, 8))] [(0, y5)] 118 V2
  have hF10 := pm_fr.tr (pm_fr.rf (ws := [3, 63, 67]) (V := V0)) hF8 (by decide)
  have e11 : V2 72 1 = 63 := by rw [hF8 72 (by decide)]; exact en0
  refine pm_if_ne (tgt := 10) hC ⟨by omega, by omega⟩ dX3_readProduct_5 (by decide) (fun c12 => ?_) (fun c12 => ?_)
  · skip
    replace hT := hT.trans (if_pos c12)
    refine pm_iconst (v := 0) hC dX3_readProduct_10 ?_
    refine pm_istore_n (lv' := [(2, (0, 0)), (0, (3, 72)), (1, (0, 8))]) hC dX3_readProduct_11 (by decide) rfl ?_
    obtain ⟨B19, hB20, hT⟩ := pf_loop hT
    have L22 : ∀ (N24 : Nat) (x13 : Int) (V15 : pm_M), (0 ≤ x13 ∧ x13 ≤ 500) → pm_ok 0 90 V15 → pm_fr [3, 63, 67] V0 V15 → V15 72 1 = 63 → F_X3_readProduct 63 (pf_fac 63 0) V0 = pf_val ((0 : Int), V0) B19 (x13, V15) → (Int.toNat (500 - x13)) = N24 → pm_J X 12 [(0, (3, 72)), (1, (0, 8)), (2, (0, x13))] [] 118 V15 := by
      intro N24
      induction N24 using Nat.strongRecOn with
      | _ N24 ih25 =>
      intro x13 V15 b14 hV16 hF17 e18 hT hm23
      have hb21 := congrFun hB20 (x13, V15)
      refine pm_iload_n hC 2 dX3_readProduct_12 rfl ?_
      refine pm_sipush (v := 500) hC dX3_readProduct_13 (by decide) ?_
      refine pm_icmp_ge (tgt := 64) hC ⟨by omega, by omega⟩ ⟨by decide, by decide⟩ dX3_readProduct_16 (by decide) (fun c26 => ?_) (fun c26 => ?_)
      · skip
        replace hb21 := hb21.trans (if_pos c26)
        refine pm_iconst (v := 1) hC dX3_readProduct_64 ?_
        have hT := hT.trans (pf_val_inr hb21)
        exact pm_iret hC hR (pm_narZ (by omega)) ⟨1, rfl, ⟨by omega, by omega⟩, hV16, hF17, hT⟩ dX3_readProduct_65
      · skip
        replace hb21 := hb21.trans (if_neg (Int.not_le.mpr c26))
        refine pm_aload_n hC 0 (by decide) dX3_readProduct_19 rfl ?_
        have e27 : V15 72 0 = 3 := hV16.one 72 0 (by decide) (by decide) rfl
        refine pm_getf (v := 3) hC 72 fl_X3_9 rfl rfl (by decide) rfl e27 dX3_readProduct_20 ?_
        refine pm_bipush (v := 42) hC dX3_readProduct_23 (by decide) ?_
        obtain ⟨y28, e29⟩ : ∃ y, V15 3 3 = y := ⟨_, rfl⟩
        have b30 := hV16.get 3 3 (lo := (-9223372036854775808)) (hi := 9223372036854775807) (by decide) (by decide) rfl
        rw [e29] at b30
        replace hb21 := hb21.trans (pf_let_eq e29)
        refine pm_callV (ci := 9) (as := [(0, 42)]) (st := []) hC 3 (fC_X9_isSign 42 ⟨by decide, by decide⟩) lm_X3_67 li_X9_isSign (by decide) (by decide) rfl rfl rfl (by decide) rfl rfl (Nat.le_of_ble_eq_true rfl) ⟨Nat.le_refl _, Or.inl rfl⟩ dX3_readProduct_25 ⟨rfl, hV16⟩ (fun r31 V32 hp33 => ?_)
        obtain ⟨y34, rfl, b35, rfl, hE36⟩ := hp33
        replace hb21 := hb21.trans (pf_call_eq hE36)
        change pm_J X 28 [(0, (3, 72)), (1, (0, 8)), (2, (0, x13))] [(0, y34)] 118 V15
        refine pm_if_eq (tgt := 64) hC ⟨by omega, by omega⟩ dX3_readProduct_28 (by decide) (fun c37 => ?_) (fun c37 => ?_)
        · skip
          replace hb21 := hb21.trans (if_pos c37)
          refine pm_iconst (v := 1) hC dX3_readProduct_64 ?_
          have hT := hT.trans (pf_val_inr hb21)
          exact pm_iret hC hR (pm_narZ (by omega)) ⟨1, rfl, ⟨by omega, by omega⟩, hV16, hF17, hT⟩ dX3_readProduct_65
        · skip
          replace hb21 := hb21.trans (if_neg c37)
          refine pm_aload_n hC 0 (by decide) dX3_readProduct_31 rfl ?_
          refine pm_getf (v := 3) hC 72 fl_X3_9 rfl rfl (by decide) rfl e27 dX3_readProduct_32 ?_
          refine pm_callV (ci := 9) (as := []) (st := []) hC 3 fC_X9_step lm_X3_43 li_X9_step (by decide) (by decide) rfl rfl rfl (by decide) rfl rfl (Nat.le_of_ble_eq_true rfl) ⟨Nat.le_refl _, Or.inl rfl⟩ dX3_readProduct_35 ⟨rfl, hV16⟩ (fun r38 V39 hp40 => ?_)
          obtain ⟨rfl, hV41, hF42, hE43⟩ := hp40
          replace hb21 := hb21.trans (pf_call_eq hE43)
          change pm_J X 38 [(0, (3, 72)), (1, (0, 8)), (2, (0, x13))] [] 118 V39
          have hF44 := pm_fr.tr hF17 hF42 (by decide)
          have e45 : V39 72 1 = 63 := by rw [hF42 72 (by decide)]; exact e18
          have e46 : V39 72 0 = 3 := by rw [hF42 72 (by decide)]; exact e27
          refine pm_aload_n hC 0 (by decide) dX3_readProduct_38 rfl ?_
          refine pm_iload_n hC 1 dX3_readProduct_39 rfl ?_
          have q50 : 63 ≤ V39 72 1 ∧ V39 72 1 ≤ 63 := by (have e : V39 72 1 = 63 := e45); rw [e]; exact ⟨by decide, by decide⟩
          refine pm_callV (ci := 3) (as := [(0, 8)]) (st := []) hC 72 fC_X3_readFactor_63_d8 lm_X3_90 li_X3_readFactor (by decide) (by decide) rfl rfl rfl (by decide) rfl rfl (Nat.le_of_ble_eq_true rfl) ⟨Nat.le_refl _, Or.inl rfl⟩ dX3_readProduct_40 ⟨rfl, hV41, q50⟩ (fun r47 V48 hp49 => ?_)
          obtain ⟨y51, rfl, b52, hV53, hF54, hE55⟩ := hp49
          replace hb21 := hb21.trans (pf_call_eq hE55)
          change pm_J X 43 [(0, (3, 72)), (1, (0, 8)), (2, (0, x13))] [(0, y51)] 118 V48
          have hF56 := pm_fr.tr hF44 hF54 (by decide)
          have e57 : V48 72 1 = 63 := by rw [hF54 72 (by decide)]; exact e45
          have e58 : V48 72 0 = 3 := by rw [hF54 72 (by decide)]; exact e46
          refine pm_if_ne (tgt := 48) hC ⟨by omega, by omega⟩ dX3_readProduct_43 (by decide) (fun c59 => ?_) (fun c59 => ?_)
          · skip
            replace hb21 := hb21.trans (if_pos c59)
            refine pm_aload_n hC 0 (by decide) dX3_readProduct_48 rfl ?_
            refine pm_getf (v := 63) hC 72 fl_X3_15 rfl rfl (by decide) rfl e57 dX3_readProduct_49 ?_
            refine pm_sipush (v := 20042) hC dX3_readProduct_52 (by decide) ?_
            refine pm_callV (ci := 2) (as := [(0, 20042)]) (st := []) hC 63 (fC_X2_emit_63 20042 ⟨by decide, by decide⟩) lm_X3_57 li_X2_emit (by decide) (by decide) rfl rfl rfl (by decide) rfl rfl (Nat.le_of_ble_eq_true rfl) ⟨Nat.le_refl _, Or.inl rfl⟩ dX3_readProduct_55 ⟨rfl, hV53⟩ (fun r60 V61 hp62 => ?_)
            obtain ⟨rfl, hV63, hF64, hE65⟩ := hp62
            replace hb21 := hb21.trans (pf_call_eq hE65)
            change pm_J X 58 [(0, (3, 72)), (1, (0, 8)), (2, (0, x13))] [] 118 V61
            have hF66 := pm_fr.tr hF56 hF64 (by decide)
            have e67 : V61 72 1 = 63 := by rw [hF64 72 (by decide)]; exact e57
            have e68 : V61 72 0 = 3 := by rw [hF64 72 (by decide)]; exact e58
            obtain ⟨x69, ei70⟩ : ∃ y : Int, x13 + 1 = y := ⟨_, rfl⟩
            replace hb21 := hb21.trans (pf_let_eq ei70)
            refine pm_iinc (y := x69) (lv' := [(2, (0, x69)), (0, (3, 72)), (1, (0, 8))]) hC 2 dX3_readProduct_58 (by decide) rfl ei70 rfl ?_
            refine pm_goto (tgt := 12) hC dX3_readProduct_61 (by decide) ?_
            refine pm_lvsub [1, 2, 0] (lv' := [(0, (3, 72)), (1, (0, 8)), (2, (0, x69))]) rfl ?_
            exact ih25 _ (by omega) x69 V61 ⟨by omega, by omega⟩ hV63 hF66 e67 (hT.trans (pf_val_inl hb21)) rfl
          · skip
            replace hb21 := hb21.trans (if_neg (fun q => q c59))
            refine pm_iconst (v := 0) hC dX3_readProduct_46 ?_
            have hT := hT.trans (pf_val_inr hb21)
            exact pm_iret hC hR (pm_narZ (by omega)) ⟨0, rfl, ⟨by omega, by omega⟩, hV53, hF56, hT⟩ dX3_readProduct_47
    refine pm_lvsub [1, 2, 0] (lv' := [(0, (3, 72)), (1, (0, 8)), (2, (0, 0))]) rfl ?_
    exact L22 _ 0 V2 ⟨by decide, by decide⟩ hV7 hF10 e11 hT rfl
  · skip
    replace hT := hT.trans (if_neg (fun q => q c12))
    refine pm_iconst (v := 0) hC dX3_readProduct_8 ?_
    exact pm_iret hC hR (pm_narZ (by omega)) ⟨0, rfl, ⟨by omega, by omega⟩, hV7, hF10, hT⟩ dX3_readProduct_9
set_option maxHeartbeats 4000000 in
set_option maxRecDepth 100000 in
theorem fC_X3_readSum_63_d8  : pm_K 5 yX3_readSum cX3_readSum 4 (some .boolean) (fun av V => av = [(3, 72), (0, 8)] ∧ pm_ok 0 90 V ∧ (63 ≤ V 72 1 ∧ V 72 1 ≤ 63)) (fun _ V r V' => ∃ y, r = some (0, y) ∧ (0 ≤ y ∧ y ≤ 1) ∧ pm_ok 0 90 V' ∧ pm_fr [3, 63, 67] V V' ∧ F_X3_readSum 63 (pf_fac 63 0) V = (y, V')) := by
  refine pm_MT.of (by decide) ⟨Nat.le_refl _, by decide⟩ (fun av V h => by rw [h.1]; exact (by decide : pm_words [(3, 0), (0, 0)] ≤ 4)) ?_
  rintro X av V0 hC - hR ⟨rfl, hV0, hq0⟩
  change pm_J X 0 [(0, (3, 72)), (1, (0, 8))] [] 118 V0
  have hT := F_X3_readSum_eq 63 (pf_fac 63 0) V0
  obtain ⟨z0, ez0⟩ : ∃ z, V0 72 1 = z := ⟨_, rfl⟩
  rw [ez0] at hq0
  have en0 : V0 72 1 = 63 := by rw [ez0]; omega
  refine pm_aload_n hC 0 (by decide) dX3_readSum_0 rfl ?_
  refine pm_iload_n hC 1 dX3_readSum_1 rfl ?_
  have q4 : 63 ≤ V0 72 1 ∧ V0 72 1 ≤ 63 := by (have e : V0 72 1 = 63 := en0); rw [e]; exact ⟨by decide, by decide⟩
  refine pm_callV (ci := 3) (as := [(0, 8)]) (st := []) hC 72 fC_X3_readProduct_63_d8 lm_X3_87 li_X3_readProduct (by decide) (by decide) rfl rfl rfl (by decide) rfl rfl (Nat.le_of_ble_eq_true rfl) ⟨Nat.le_refl _, Or.inl rfl⟩ dX3_readSum_2 ⟨rfl, hV0, q4⟩ (fun r1 V2 hp3 => ?_)
  obtain ⟨y5, rfl, b6, hV7, hF8, hE9⟩ := hp3
  replace hT := hT.trans (pf_call_eq hE9)
  change pm_J X 5 [(0, (3, 72)), (1, (0, 8))] [(0, y5)] 118 V2
  have hF10 := pm_fr.tr (pm_fr.rf (ws := [3, 63, 67]) (V := V0)) hF8 (by decide)
  have e11 : V2 72 1 = 63 := by rw [hF8 72 (by decide)]; exact en0
  refine pm_if_ne (tgt := 10) hC ⟨by omega, by omega⟩ dX3_readSum_5 (by decide) (fun c12 => ?_) (fun c12 => ?_)
  · skip
    replace hT := hT.trans (if_pos c12)
    refine pm_iconst (v := 0) hC dX3_readSum_10 ?_
    refine pm_istore_n (lv' := [(2, (0, 0)), (0, (3, 72)), (1, (0, 8))]) hC dX3_readSum_11 (by decide) rfl ?_
    obtain ⟨B19, hB20, hT⟩ := pf_loop hT
    have L22 : ∀ (N24 : Nat) (x13 : Int) (V15 : pm_M), (0 ≤ x13 ∧ x13 ≤ 500) → pm_ok 0 90 V15 → pm_fr [3, 63, 67] V0 V15 → V15 72 1 = 63 → F_X3_readSum 63 (pf_fac 63 0) V0 = pf_val ((0 : Int), V0) B19 (x13, V15) → (Int.toNat (500 - x13)) = N24 → pm_J X 12 [(0, (3, 72)), (1, (0, 8)), (2, (0, x13))] [] 118 V15 := by
      intro N24
      induction N24 using Nat.strongRecOn with
      | _ N24 ih25 =>
      intro x13 V15 b14 hV16 hF17 e18 hT hm23
      have hb21 := congrFun hB20 (x13, V15)
      refine pm_iload_n hC 2 dX3_readSum_12 rfl ?_
      refine pm_sipush (v := 500) hC dX3_readSum_13 (by decide) ?_
      refine pm_icmp_ge (tgt := 87) hC ⟨by omega, by omega⟩ ⟨by decide, by decide⟩ dX3_readSum_16 (by decide) (fun c26 => ?_) (fun c26 => ?_)
      · skip
        replace hb21 := hb21.trans (if_pos c26)
        refine pm_iconst (v := 1) hC dX3_readSum_87 ?_
        have hT := hT.trans (pf_val_inr hb21)
        exact pm_iret hC hR (pm_narZ (by omega)) ⟨1, rfl, ⟨by omega, by omega⟩, hV16, hF17, hT⟩ dX3_readSum_88
      · skip
        replace hb21 := hb21.trans (if_neg (Int.not_le.mpr c26))
        refine pm_aload_n hC 0 (by decide) dX3_readSum_19 rfl ?_
        have e27 : V15 72 0 = 3 := hV16.one 72 0 (by decide) (by decide) rfl
        refine pm_getf (v := 3) hC 72 fl_X3_9 rfl rfl (by decide) rfl e27 dX3_readSum_20 ?_
        refine pm_bipush (v := 43) hC dX3_readSum_23 (by decide) ?_
        obtain ⟨y28, e29⟩ : ∃ y, V15 3 3 = y := ⟨_, rfl⟩
        have b30 := hV16.get 3 3 (lo := (-9223372036854775808)) (hi := 9223372036854775807) (by decide) (by decide) rfl
        rw [e29] at b30
        replace hb21 := hb21.trans (pf_let_eq e29)
        refine pm_callV (ci := 9) (as := [(0, 43)]) (st := []) hC 3 (fC_X9_isSign 43 ⟨by decide, by decide⟩) lm_X3_67 li_X9_isSign (by decide) (by decide) rfl rfl rfl (by decide) rfl rfl (Nat.le_of_ble_eq_true rfl) ⟨Nat.le_refl _, Or.inl rfl⟩ dX3_readSum_25 ⟨rfl, hV16⟩ (fun r31 V32 hp33 => ?_)
        obtain ⟨y34, rfl, b35, rfl, hE36⟩ := hp33
        replace hb21 := hb21.trans (pf_call_eq hE36)
        change pm_J X 28 [(0, (3, 72)), (1, (0, 8)), (2, (0, x13))] [(0, y34)] 118 V15
        refine pm_if_ne (tgt := 43) hC ⟨by omega, by omega⟩ dX3_readSum_28 (by decide) (fun c37 => ?_) (fun c37 => ?_)
        · skip
          replace hb21 := hb21.trans (if_pos c37)
          refine pm_aload_n hC 0 (by decide) dX3_readSum_43 rfl ?_
          refine pm_getf (v := 3) hC 72 fl_X3_9 rfl rfl (by decide) rfl e27 dX3_readSum_44 ?_
          refine pm_getf (v := y28) hC 3 fl_X3_53 rfl rfl (by decide) rfl e29 dX3_readSum_47 ?_
          refine pm_l2i hC dX3_readSum_50 ?_
          refine pm_istore_n (lv' := [(3, (0, y28)), (0, (3, 72)), (1, (0, 8)), (2, (0, x13))]) hC dX3_readSum_51 (by decide) rfl ?_
          refine pm_aload_n hC 1 (by decide) dX3_readSum_52 rfl ?_
          refine pm_getf (v := 3) hC 72 fl_X3_9 rfl rfl (by decide) rfl e27 dX3_readSum_53 ?_
          refine pm_callV (ci := 9) (as := []) (st := []) hC 3 fC_X9_step lm_X3_43 li_X9_step (by decide) (by decide) rfl rfl rfl (by decide) rfl rfl (Nat.le_of_ble_eq_true rfl) ⟨Nat.le_refl _, Or.inl rfl⟩ dX3_readSum_56 ⟨rfl, hV16⟩ (fun r38 V39 hp40 => ?_)
          obtain ⟨rfl, hV41, hF42, hE43⟩ := hp40
          replace hb21 := hb21.trans (pf_call_eq hE43)
          change pm_J X 59 [(3, (0, y28)), (0, (3, 72)), (1, (0, 8)), (2, (0, x13))] [] 118 V39
          have hF44 := pm_fr.tr hF17 hF42 (by decide)
          have e45 : V39 72 1 = 63 := by rw [hF42 72 (by decide)]; exact e18
          have e46 : V39 72 0 = 3 := by rw [hF42 72 (by decide)]; exact e27
          refine pm_aload_n hC 1 (by decide) dX3_readSum_59 rfl ?_
          refine pm_iload_n hC 2 dX3_readSum_60 rfl ?_
          have q50 : 63 ≤ V39 72 1 ∧ V39 72 1 ≤ 63 := by (have e : V39 72 1 = 63 := e45); rw [e]; exact ⟨by decide, by decide⟩
          refine pm_callV (ci := 3) (as := [(0, 8)]) (st := []) hC 72 fC_X3_readProduct_63_d8 lm_X3_87 li_X3_readProduct (by decide) (by decide) rfl rfl rfl (by decide) rfl rfl (Nat.le_of_ble_eq_true rfl) ⟨Nat.le_refl _, Or.inl rfl⟩ dX3_readSum_61 ⟨rfl, hV41, q50⟩ (fun r47 V48 hp49 => ?_)
          obtain ⟨y51, rfl, b52, hV53, hF54, hE55⟩ := hp49
          replace hb21 := hb21.trans (pf_call_eq hE55)
          change pm_J X 64 [(3, (0, y28)), (0, (3, 72)), (1, (0, 8)), (2, (0, x13))] [(0, y51)] 118 V48
          have hF56 := pm_fr.tr hF44 hF54 (by decide)
          have e57 : V48 72 1 = 63 := by rw [hF54 72 (by decide)]; exact e45
          have e58 : V48 72 0 = 3 := by rw [hF54 72 (by decide)]; exact e46
          refine pm_if_ne (tgt := 69) hC ⟨by omega, by omega⟩ dX3_readSum_64 (by decide) (fun c59 => ?_) (fun c59 => ?_)
          · skip
            replace hb21 := hb21.trans (if_pos c59)
            refine pm_aload_n hC 1 (by decide) dX3_readSum_69 rfl ?_
            refine pm_getf (v := 63) hC 72 fl_X3_15 rfl rfl (by decide) rfl e57 dX3_readSum_70 ?_
            refine pm_sipush (v := 20000) hC dX3_readSum_73 (by decide) ?_
            refine pm_iload_n hC 0 dX3_readSum_76 rfl ?_
            refine pm_iadd hC dX3_readSum_77 ?_
            refine pm_callV (ci := 2) (as := [(0, (20000 + y28))]) (st := []) hC 63 (fC_X2_emit_63 (20000 + y28) ⟨by omega, by omega⟩) lm_X3_57 li_X2_emit (by decide) (by decide) rfl rfl rfl (by decide) rfl rfl (Nat.le_of_ble_eq_true rfl) ⟨Nat.le_refl _, Or.inl rfl⟩ dX3_readSum_78 ⟨rfl, hV53⟩ (fun r60 V61 hp62 => ?_)
            obtain ⟨rfl, hV63, hF64, hE65⟩ := hp62
            replace hb21 := hb21.trans (pf_call_eq hE65)
            change pm_J X 81 [(3, (0, y28)), (0, (3, 72)), (1, (0, 8)), (2, (0, x13))] [] 118 V61
            have hF66 := pm_fr.tr hF56 hF64 (by decide)
            have e67 : V61 72 1 = 63 := by rw [hF64 72 (by decide)]; exact e57
            have e68 : V61 72 0 = 3 := by rw [hF64 72 (by decide)]; exact e58
            obtain ⟨x69, ei70⟩ : ∃ y : Int, x13 + 1 = y := ⟨_, rfl⟩
            replace hb21 := hb21.trans (pf_let_eq ei70)
            refine pm_iinc (y := x69) (lv' := [(2, (0, x69)), (3, (0, y28)), (0, (3, 72)), (1, (0, 8))]) hC 3 dX3_readSum_81 (by decide) rfl ei70 rfl ?_
            refine pm_goto (tgt := 12) hC dX3_readSum_84 (by decide) ?_
            refine pm_lvsub [2, 3, 0] (lv' := [(0, (3, 72)), (1, (0, 8)), (2, (0, x69))]) rfl ?_
            exact ih25 _ (by omega) x69 V61 ⟨by omega, by omega⟩ hV63 hF66 e67 (hT.trans (pf_val_inl hb21)) rfl
          · skip
            replace hb21 := hb21.trans (if_neg (fun q => q c59))
            refine pm_iconst (v := 0) hC dX3_readSum_67 ?_
            have hT := hT.trans (pf_val_inr hb21)
            exact pm_iret hC hR (pm_narZ (by omega)) ⟨0, rfl, ⟨by omega, by omega⟩, hV53, hF56, hT⟩ dX3_readSum_68
        · skip
          replace hb21 := hb21.trans (if_neg (fun q => q c37))
          refine pm_aload_n hC 0 (by decide) dX3_readSum_31 rfl ?_
          refine pm_getf (v := 3) hC 72 fl_X3_9 rfl rfl (by decide) rfl e27 dX3_readSum_32 ?_
          refine pm_bipush (v := 45) hC dX3_readSum_35 (by decide) ?_
          refine pm_callV (ci := 9) (as := [(0, 45)]) (st := []) hC 3 (fC_X9_isSign 45 ⟨by decide, by decide⟩) lm_X3_67 li_X9_isSign (by decide) (by decide) rfl rfl rfl (by decide) rfl rfl (Nat.le_of_ble_eq_true rfl) ⟨Nat.le_refl _, Or.inl rfl⟩ dX3_readSum_37 ⟨rfl, hV16⟩ (fun r71 V72 hp73 => ?_)
          obtain ⟨y74, rfl, b75, rfl, hE76⟩ := hp73
          replace hb21 := hb21.trans (pf_call_eq hE76)
          change pm_J X 40 [(0, (3, 72)), (1, (0, 8)), (2, (0, x13))] [(0, y74)] 118 V15
          refine pm_if_eq (tgt := 87) hC ⟨by omega, by omega⟩ dX3_readSum_40 (by decide) (fun c77 => ?_) (fun c77 => ?_)
          · skip
            replace hb21 := hb21.trans (if_pos c77)
            refine pm_iconst (v := 1) hC dX3_readSum_87 ?_
            have hT := hT.trans (pf_val_inr hb21)
            exact pm_iret hC hR (pm_narZ (by omega)) ⟨1, rfl, ⟨by omega, by omega⟩, hV16, hF17, hT⟩ dX3_readSum_88
          · skip
            replace hb21 := hb21.trans (if_neg c77)
            refine pm_aload_n hC 0 (by decide) dX3_readSum_43 rfl ?_
            refine pm_getf (v := 3) hC 72 fl_X3_9 rfl rfl (by decide) rfl e27 dX3_readSum_44 ?_
            refine pm_getf (v := y28) hC 3 fl_X3_53 rfl rfl (by decide) rfl e29 dX3_readSum_47 ?_
            refine pm_l2i hC dX3_readSum_50 ?_
            refine pm_istore_n (lv' := [(3, (0, y28)), (0, (3, 72)), (1, (0, 8)), (2, (0, x13))]) hC dX3_readSum_51 (by decide) rfl ?_
            refine pm_aload_n hC 1 (by decide) dX3_readSum_52 rfl ?_
            refine pm_getf (v := 3) hC 72 fl_X3_9 rfl rfl (by decide) rfl e27 dX3_readSum_53 ?_
            refine pm_callV (ci := 9) (as := []) (st := []) hC 3 fC_X9_step lm_X3_43 li_X9_step (by decide) (by decide) rfl rfl rfl (by decide) rfl rfl (Nat.le_of_ble_eq_true rfl) ⟨Nat.le_refl _, Or.inl rfl⟩ dX3_readSum_56 ⟨rfl, hV16⟩ (fun r78 V79 hp80 => ?_)
            obtain ⟨rfl, hV81, hF82, hE83⟩ := hp80
            replace hb21 := hb21.trans (pf_call_eq hE83)
            change pm_J X 59 [(3, (0, y28)), (0, (3, 72)), (1, (0, 8)), (2, (0, x13))] [] 118 V79
            have hF84 := pm_fr.tr hF17 hF82 (by decide)
            have e85 : V79 72 1 = 63 := by rw [hF82 72 (by decide)]; exact e18
            have e86 : V79 72 0 = 3 := by rw [hF82 72 (by decide)]; exact e27
            refine pm_aload_n hC 1 (by decide) dX3_readSum_59 rfl ?_
            refine pm_iload_n hC 2 dX3_readSum_60 rfl ?_
            have q90 : 63 ≤ V79 72 1 ∧ V79 72 1 ≤ 63 := by (have e : V79 72 1 = 63 := e85); rw [e]; exact ⟨by decide, by decide⟩
            refine pm_callV (ci := 3) (as := [(0, 8)]) (st := []) hC 72 fC_X3_readProduct_63_d8 lm_X3_87 li_X3_readProduct (by decide) (by decide) rfl rfl rfl (by decide) rfl rfl (Nat.le_of_ble_eq_true rfl) ⟨Nat.le_refl _, Or.inl rfl⟩ dX3_readSum_61 ⟨rfl, hV81, q90⟩ (fun r87 V88 hp89 => ?_)
            obtain ⟨y91, rfl, b92, hV93, hF94, hE95⟩ := hp89
            replace hb21 := hb21.trans (pf_call_eq hE95)
            change pm_J X 64 [(3, (0, y28)), (0, (3, 72)), (1, (0, 8)), (2, (0, x13))] [(0, y91)] 118 V88
            have hF96 := pm_fr.tr hF84 hF94 (by decide)
            have e97 : V88 72 1 = 63 := by rw [hF94 72 (by decide)]; exact e85
            have e98 : V88 72 0 = 3 := by rw [hF94 72 (by decide)]; exact e86
            refine pm_if_ne (tgt := 69) hC ⟨by omega, by omega⟩ dX3_readSum_64 (by decide) (fun c99 => ?_) (fun c99 => ?_)
            · skip
              replace hb21 := hb21.trans (if_pos c99)
              refine pm_aload_n hC 1 (by decide) dX3_readSum_69 rfl ?_
              refine pm_getf (v := 63) hC 72 fl_X3_15 rfl rfl (by decide) rfl e97 dX3_readSum_70 ?_
              refine pm_sipush (v := 20000) hC dX3_readSum_73 (by decide) ?_
              refine pm_iload_n hC 0 dX3_readSum_76 rfl ?_
              refine pm_iadd hC dX3_readSum_77 ?_
              refine pm_callV (ci := 2) (as := [(0, (20000 + y28))]) (st := []) hC 63 (fC_X2_emit_63 (20000 + y28) ⟨by omega, by omega⟩) lm_X3_57 li_X2_emit (by decide) (by decide) rfl rfl rfl (by decide) rfl rfl (Nat.le_of_ble_eq_true rfl) ⟨Nat.le_refl _, Or.inl rfl⟩ dX3_readSum_78 ⟨rfl, hV93⟩ (fun r100 V101 hp102 => ?_)
              obtain ⟨rfl, hV103, hF104, hE105⟩ := hp102
              replace hb21 := hb21.trans (pf_call_eq hE105)
              change pm_J X 81 [(3, (0, y28)), (0, (3, 72)), (1, (0, 8)), (2, (0, x13))] [] 118 V101
              have hF106 := pm_fr.tr hF96 hF104 (by decide)
              have e107 : V101 72 1 = 63 := by rw [hF104 72 (by decide)]; exact e97
              have e108 : V101 72 0 = 3 := by rw [hF104 72 (by decide)]; exact e98
              obtain ⟨x109, ei110⟩ : ∃ y : Int, x13 + 1 = y := ⟨_, rfl⟩
              replace hb21 := hb21.trans (pf_let_eq ei110)
              refine pm_iinc (y := x109) (lv' := [(2, (0, x109)), (3, (0, y28)), (0, (3, 72)), (1, (0, 8))]) hC 3 dX3_readSum_81 (by decide) rfl ei110 rfl ?_
              refine pm_goto (tgt := 12) hC dX3_readSum_84 (by decide) ?_
              refine pm_lvsub [2, 3, 0] (lv' := [(0, (3, 72)), (1, (0, 8)), (2, (0, x109))]) rfl ?_
              exact ih25 _ (by omega) x109 V101 ⟨by omega, by omega⟩ hV103 hF106 e107 (hT.trans (pf_val_inl hb21)) rfl
            · skip
              replace hb21 := hb21.trans (if_neg (fun q => q c99))
              refine pm_iconst (v := 0) hC dX3_readSum_67 ?_
              have hT := hT.trans (pf_val_inr hb21)
              exact pm_iret hC hR (pm_narZ (by omega)) ⟨0, rfl, ⟨by omega, by omega⟩, hV93, hF96, hT⟩ dX3_readSum_68
    refine pm_lvsub [1, 2, 0] (lv' := [(0, (3, 72)), (1, (0, 8)), (2, (0, 0))]) rfl ?_
    exact L22 _ 0 V2 ⟨by decide, by decide⟩ hV7 hF10 e11 hT rfl
  · skip
    replace hT := hT.trans (if_neg (fun q => q c12))
    refine pm_iconst (v := 0) hC dX3_readSum_8 ?_
    exact pm_iret hC hR (pm_narZ (by omega)) ⟨0, rfl, ⟨by omega, by omega⟩, hV7, hF10, hT⟩ dX3_readSum_9
set_option maxHeartbeats 4000000 in
set_option maxRecDepth 100000 in
theorem fC_X3_readFactor_63_d7  : pm_K 6 yX3_readFactor cX3_readFactor 3 (some .boolean) (fun av V => av = [(3, 72), (0, 7)] ∧ pm_ok 0 90 V ∧ (63 ≤ V 72 1 ∧ V 72 1 ≤ 63)) (fun _ V r V' => ∃ y, r = some (0, y) ∧ (0 ≤ y ∧ y ≤ 1) ∧ pm_ok 0 90 V' ∧ pm_fr [3, 63, 67] V V' ∧ pf_fac 63 1 V = (y, V')) := by
  refine pm_MT.of (by decide) ⟨Nat.le_refl _, by decide⟩ (fun av V h => by rw [h.1]; exact (by decide : pm_words [(3, 0), (0, 0)] ≤ 3)) ?_
  rintro X av V0 hC - hR ⟨rfl, hV0, hq0⟩
  change pm_J X 0 [(0, (3, 72)), (1, (0, 7))] [] 118 V0
  have hT := F_X3_readFactor_eq 63 (F_X3_readSum 63 (pf_fac 63 0)) V0
  obtain ⟨z0, ez0⟩ : ∃ z, V0 72 1 = z := ⟨_, rfl⟩
  rw [ez0] at hq0
  have en0 : V0 72 1 = 63 := by rw [ez0]; omega
  refine pm_aload_n hC 0 (by decide) dX3_readFactor_0 rfl ?_
  have q4 : 63 ≤ V0 72 1 ∧ V0 72 1 ≤ 63 := by (have e : V0 72 1 = 63 := en0); rw [e]; exact ⟨by decide, by decide⟩
  refine pm_callV (ci := 3) (as := []) (st := []) hC 72 fC_X3_codeOfToken_63 lm_X3_93 li_X3_codeOfToken (by decide) (by decide) rfl rfl rfl (by decide) rfl rfl (Nat.le_of_ble_eq_true rfl) ⟨Nat.le_refl _, Or.inl rfl⟩ dX3_readFactor_1 ⟨rfl, hV0, q4⟩ (fun r1 V2 hp3 => ?_)
  obtain ⟨y5, rfl, b6, rfl, hE7⟩ := hp3
  replace hT := hT.trans (pf_call_eq hE7)
  change pm_J X 4 [(0, (3, 72)), (1, (0, 7))] [(0, y5)] 118 V0
  refine pm_istore_n (lv' := [(2, (0, y5)), (0, (3, 72)), (1, (0, 7))]) hC dX3_readFactor_4 (by decide) rfl ?_
  refine pm_iload_n hC 0 dX3_readFactor_5 rfl ?_
  refine pm_iconst (v := (-1)) hC dX3_readFactor_6 ?_
  refine pm_icmp_eq (tgt := 27) hC ⟨by omega, by omega⟩ ⟨by decide, by decide⟩ dX3_readFactor_7 (by decide) (fun c8 => ?_) (fun c8 => ?_)
  · skip
    replace hT := hT.trans (if_pos c8)
    refine pm_iload_n hC 2 dX3_readFactor_27 rfl ?_
    refine pm_bipush (v := 8) hC dX3_readFactor_28 (by decide) ?_
    refine pm_icmp_ge (tgt := 45) hC ⟨by decide, by decide⟩ ⟨by decide, by decide⟩ dX3_readFactor_30 (by decide) (fun c9 => ?_) (fun c9 => ?_)
    · skip
      exfalso; omega
    · skip
      refine pm_aload_n hC 1 (by decide) dX3_readFactor_33 rfl ?_
      have e10 : V0 72 0 = 3 := hV0.one 72 0 (by decide) (by decide) rfl
      refine pm_getf (v := 3) hC 72 fl_X3_9 rfl rfl (by decide) rfl e10 dX3_readFactor_34 ?_
      refine pm_bipush (v := 40) hC dX3_readFactor_37 (by decide) ?_
      obtain ⟨y11, e12⟩ : ∃ y, V0 3 3 = y := ⟨_, rfl⟩
      have b13 := hV0.get 3 3 (lo := (-9223372036854775808)) (hi := 9223372036854775807) (by decide) (by decide) rfl
      rw [e12] at b13
      replace hT := hT.trans (pf_let_eq e12)
      refine pm_callV (ci := 9) (as := [(0, 40)]) (st := []) hC 3 (fC_X9_isSign 40 ⟨by decide, by decide⟩) lm_X3_67 li_X9_isSign (by decide) (by decide) rfl rfl rfl (by decide) rfl rfl (Nat.le_of_ble_eq_true rfl) ⟨Nat.le_refl _, Or.inl rfl⟩ dX3_readFactor_39 ⟨rfl, hV0⟩ (fun r14 V15 hp16 => ?_)
      obtain ⟨y17, rfl, b18, rfl, hE19⟩ := hp16
      replace hT := hT.trans (pf_call_eq hE19)
      change pm_J X 42 [(2, (0, y5)), (0, (3, 72)), (1, (0, 7))] [(0, y17)] 118 V0
      refine pm_if_ne (tgt := 47) hC ⟨by omega, by omega⟩ dX3_readFactor_42 (by decide) (fun c20 => ?_) (fun c20 => ?_)
      · skip
        replace hT := hT.trans (if_pos c20)
        refine pm_aload_n hC 1 (by decide) dX3_readFactor_47 rfl ?_
        refine pm_getf (v := 3) hC 72 fl_X3_9 rfl rfl (by decide) rfl e10 dX3_readFactor_48 ?_
        refine pm_callV (ci := 9) (as := []) (st := []) hC 3 fC_X9_step lm_X3_43 li_X9_step (by decide) (by decide) rfl rfl rfl (by decide) rfl rfl (Nat.le_of_ble_eq_true rfl) ⟨Nat.le_refl _, Or.inl rfl⟩ dX3_readFactor_51 ⟨rfl, hV0⟩ (fun r21 V22 hp23 => ?_)
        obtain ⟨rfl, hV24, hF25, hE26⟩ := hp23
        replace hT := hT.trans (pf_call_eq hE26)
        change pm_J X 54 [(2, (0, y5)), (0, (3, 72)), (1, (0, 7))] [] 118 V22
        have hF27 := pm_fr.tr (pm_fr.rf (ws := [3, 63, 67]) (V := V0)) hF25 (by decide)
        have e28 : V22 72 1 = 63 := by rw [hF25 72 (by decide)]; exact en0
        have e29 : V22 72 0 = 3 := by rw [hF25 72 (by decide)]; exact e10
        refine pm_aload_n hC 1 (by decide) dX3_readFactor_54 rfl ?_
        refine pm_iload_n hC 2 dX3_readFactor_55 rfl ?_
        refine pm_iconst (v := 1) hC dX3_readFactor_56 ?_
        refine pm_iadd hC dX3_readFactor_57 ?_
        change pm_J X 58 [(2, (0, y5)), (0, (3, 72)), (1, (0, 7))] [(0, 8), (3, 72)] 118 V22
        have q33 : 63 ≤ V22 72 1 ∧ V22 72 1 ≤ 63 := by (have e : V22 72 1 = 63 := e28); rw [e]; exact ⟨by decide, by decide⟩
        refine pm_callV (ci := 3) (as := [(0, 8)]) (st := []) hC 72 fC_X3_readSum_63_d8 lm_X3_46 li_X3_readSum (by decide) (by decide) rfl rfl rfl (by decide) rfl rfl (Nat.le_of_ble_eq_true rfl) ⟨Nat.le_refl _, Or.inl rfl⟩ dX3_readFactor_58 ⟨rfl, hV24, q33⟩ (fun r30 V31 hp32 => ?_)
        obtain ⟨y34, rfl, b35, hV36, hF37, hE38⟩ := hp32
        replace hT := hT.trans (pf_call_eq hE38)
        change pm_J X 61 [(2, (0, y5)), (0, (3, 72)), (1, (0, 7))] [(0, y34)] 118 V31
        have hF39 := pm_fr.tr hF27 hF37 (by decide)
        have e40 : V31 72 1 = 63 := by rw [hF37 72 (by decide)]; exact e28
        have e41 : V31 72 0 = 3 := by rw [hF37 72 (by decide)]; exact e29
        refine pm_if_eq (tgt := 76) hC ⟨by omega, by omega⟩ dX3_readFactor_61 (by decide) (fun c42 => ?_) (fun c42 => ?_)
        · skip
          replace hT := hT.trans (if_pos c42)
          refine pm_iconst (v := 0) hC dX3_readFactor_76 ?_
          exact pm_iret hC hR (pm_narZ (by omega)) ⟨0, rfl, ⟨by omega, by omega⟩, hV36, hF39, hT⟩ dX3_readFactor_77
        · skip
          replace hT := hT.trans (if_neg c42)
          refine pm_aload_n hC 1 (by decide) dX3_readFactor_64 rfl ?_
          refine pm_getf (v := 3) hC 72 fl_X3_9 rfl rfl (by decide) rfl e41 dX3_readFactor_65 ?_
          refine pm_bipush (v := 41) hC dX3_readFactor_68 (by decide) ?_
          obtain ⟨y43, e44⟩ : ∃ y, V31 3 3 = y := ⟨_, rfl⟩
          have b45 := hV36.get 3 3 (lo := (-9223372036854775808)) (hi := 9223372036854775807) (by decide) (by decide) rfl
          rw [e44] at b45
          replace hT := hT.trans (pf_let_eq e44)
          refine pm_callV (ci := 9) (as := [(0, 41)]) (st := []) hC 3 (fC_X9_isSign 41 ⟨by decide, by decide⟩) lm_X3_67 li_X9_isSign (by decide) (by decide) rfl rfl rfl (by decide) rfl rfl (Nat.le_of_ble_eq_true rfl) ⟨Nat.le_refl _, Or.inl rfl⟩ dX3_readFactor_70 ⟨rfl, hV36⟩ (fun r46 V47 hp48 => ?_)
          obtain ⟨y49, rfl, b50, rfl, hE51⟩ := hp48
          replace hT := hT.trans (pf_call_eq hE51)
          change pm_J X 73 [(2, (0, y5)), (0, (3, 72)), (1, (0, 7))] [(0, y49)] 118 V31
          refine pm_if_ne (tgt := 78) hC ⟨by omega, by omega⟩ dX3_readFactor_73 (by decide) (fun c52 => ?_) (fun c52 => ?_)
          · skip
            replace hT := hT.trans (if_pos c52)
            refine pm_aload_n hC 1 (by decide) dX3_readFactor_78 rfl ?_
            refine pm_getf (v := 3) hC 72 fl_X3_9 rfl rfl (by decide) rfl e41 dX3_readFactor_79 ?_
            refine pm_callV (ci := 9) (as := []) (st := []) hC 3 fC_X9_step lm_X3_43 li_X9_step (by decide) (by decide) rfl rfl rfl (by decide) rfl rfl (Nat.le_of_ble_eq_true rfl) ⟨Nat.le_refl _, Or.inl rfl⟩ dX3_readFactor_82 ⟨rfl, hV36⟩ (fun r53 V54 hp55 => ?_)
            obtain ⟨rfl, hV56, hF57, hE58⟩ := hp55
            replace hT := hT.trans (pf_call_eq hE58)
            change pm_J X 85 [(2, (0, y5)), (0, (3, 72)), (1, (0, 7))] [] 118 V54
            have hF59 := pm_fr.tr hF39 hF57 (by decide)
            have e60 : V54 72 1 = 63 := by rw [hF57 72 (by decide)]; exact e40
            have e61 : V54 72 0 = 3 := by rw [hF57 72 (by decide)]; exact e41
            refine pm_iconst (v := 1) hC dX3_readFactor_85 ?_
            exact pm_iret hC hR (pm_narZ (by omega)) ⟨1, rfl, ⟨by omega, by omega⟩, hV56, hF59, hT⟩ dX3_readFactor_86
          · skip
            replace hT := hT.trans (if_neg (fun q => q c52))
            refine pm_iconst (v := 0) hC dX3_readFactor_76 ?_
            exact pm_iret hC hR (pm_narZ (by omega)) ⟨0, rfl, ⟨by omega, by omega⟩, hV36, hF39, hT⟩ dX3_readFactor_77
      · skip
        replace hT := hT.trans (if_neg (fun q => q c20))
        refine pm_iconst (v := 0) hC dX3_readFactor_45 ?_
        exact pm_iret hC hR (pm_narZ (by omega)) ⟨0, rfl, ⟨by omega, by omega⟩, hV0, (pm_fr.rf (ws := [3, 63, 67]) (V := V0)), hT⟩ dX3_readFactor_46
  · skip
    replace hT := hT.trans (if_neg c8)
    refine pm_aload_n hC 1 (by decide) dX3_readFactor_10 rfl ?_
    refine pm_getf (v := 63) hC 72 fl_X3_15 rfl rfl (by decide) rfl en0 dX3_readFactor_11 ?_
    refine pm_iload_n hC 0 dX3_readFactor_14 rfl ?_
    refine pm_callV (ci := 2) (as := [(0, y5)]) (st := []) hC 63 (fC_X2_emit_63 y5 ⟨by omega, by omega⟩) lm_X3_57 li_X2_emit (by decide) (by decide) rfl rfl rfl (by decide) rfl rfl (Nat.le_of_ble_eq_true rfl) ⟨Nat.le_refl _, Or.inl rfl⟩ dX3_readFactor_15 ⟨rfl, hV0⟩ (fun r62 V63 hp64 => ?_)
    obtain ⟨rfl, hV65, hF66, hE67⟩ := hp64
    replace hT := hT.trans (pf_call_eq hE67)
    change pm_J X 18 [(2, (0, y5)), (0, (3, 72)), (1, (0, 7))] [] 118 V63
    have hF68 := pm_fr.tr (pm_fr.rf (ws := [3, 63, 67]) (V := V0)) hF66 (by decide)
    have e69 : V63 72 1 = 63 := by rw [hF66 72 (by decide)]; exact en0
    refine pm_aload_n hC 1 (by decide) dX3_readFactor_18 rfl ?_
    have e70 : V63 72 0 = 3 := hV65.one 72 0 (by decide) (by decide) rfl
    refine pm_getf (v := 3) hC 72 fl_X3_9 rfl rfl (by decide) rfl e70 dX3_readFactor_19 ?_
    refine pm_callV (ci := 9) (as := []) (st := []) hC 3 fC_X9_step lm_X3_43 li_X9_step (by decide) (by decide) rfl rfl rfl (by decide) rfl rfl (Nat.le_of_ble_eq_true rfl) ⟨Nat.le_refl _, Or.inl rfl⟩ dX3_readFactor_22 ⟨rfl, hV65⟩ (fun r71 V72 hp73 => ?_)
    obtain ⟨rfl, hV74, hF75, hE76⟩ := hp73
    replace hT := hT.trans (pf_call_eq hE76)
    change pm_J X 25 [(2, (0, y5)), (0, (3, 72)), (1, (0, 7))] [] 118 V72
    have hF77 := pm_fr.tr hF68 hF75 (by decide)
    have e78 : V72 72 1 = 63 := by rw [hF75 72 (by decide)]; exact e69
    have e79 : V72 72 0 = 3 := by rw [hF75 72 (by decide)]; exact e70
    refine pm_iconst (v := 1) hC dX3_readFactor_25 ?_
    exact pm_iret hC hR (pm_narZ (by omega)) ⟨1, rfl, ⟨by omega, by omega⟩, hV74, hF77, hT⟩ dX3_readFactor_26
set_option maxHeartbeats 4000000 in
set_option maxRecDepth 100000 in
theorem fC_X3_readProduct_63_d7  : pm_K 7 yX3_readProduct cX3_readProduct 3 (some .boolean) (fun av V => av = [(3, 72), (0, 7)] ∧ pm_ok 0 90 V ∧ (63 ≤ V 72 1 ∧ V 72 1 ≤ 63)) (fun _ V r V' => ∃ y, r = some (0, y) ∧ (0 ≤ y ∧ y ≤ 1) ∧ pm_ok 0 90 V' ∧ pm_fr [3, 63, 67] V V' ∧ F_X3_readProduct 63 (pf_fac 63 1) V = (y, V')) := by
  refine pm_MT.of (by decide) ⟨Nat.le_refl _, by decide⟩ (fun av V h => by rw [h.1]; exact (by decide : pm_words [(3, 0), (0, 0)] ≤ 3)) ?_
  rintro X av V0 hC - hR ⟨rfl, hV0, hq0⟩
  change pm_J X 0 [(0, (3, 72)), (1, (0, 7))] [] 118 V0
  have hT := F_X3_readProduct_eq 63 (pf_fac 63 1) V0
  obtain ⟨z0, ez0⟩ : ∃ z, V0 72 1 = z := ⟨_, rfl⟩
  rw [ez0] at hq0
  have en0 : V0 72 1 = 63 := by rw [ez0]; omega
  refine pm_aload_n hC 0 (by decide) dX3_readProduct_0 rfl ?_
  refine pm_iload_n hC 1 dX3_readProduct_1 rfl ?_
  have q4 : 63 ≤ V0 72 1 ∧ V0 72 1 ≤ 63 := by (have e : V0 72 1 = 63 := en0); rw [e]; exact ⟨by decide, by decide⟩
  refine pm_callV (ci := 3) (as := [(0, 7)]) (st := []) hC 72 fC_X3_readFactor_63_d7 lm_X3_90 li_X3_readFactor (by decide) (by decide) rfl rfl rfl (by decide) rfl rfl (Nat.le_of_ble_eq_true rfl) ⟨Nat.le_refl _, Or.inl rfl⟩ dX3_readProduct_2 ⟨rfl, hV0, q4⟩ (fun r1 V2 hp3 => ?_)
  obtain ⟨y5, rfl, b6, hV7, hF8, hE9⟩ := hp3
  replace hT := hT.trans (pf_call_eq hE9)
  change pm_J X 5 [(0, (3, 72)), (1, (0, 7))] [(0, y5)] 118 V2
  have hF10 := pm_fr.tr (pm_fr.rf (ws := [3, 63, 67]) (V := V0)) hF8 (by decide)
  have e11 : V2 72 1 = 63 := by rw [hF8 72 (by decide)]; exact en0
  refine pm_if_ne (tgt := 10) hC ⟨by omega, by omega⟩ dX3_readProduct_5 (by decide) (fun c12 => ?_) (fun c12 => ?_)
  · skip
    replace hT := hT.trans (if_pos c12)
    refine pm_iconst (v := 0) hC dX3_readProduct_10 ?_
    refine pm_istore_n (lv' := [(2, (0, 0)), (0, (3, 72)), (1, (0, 7))]) hC dX3_readProduct_11 (by decide) rfl ?_
    obtain ⟨B19, hB20, hT⟩ := pf_loop hT
    have L22 : ∀ (N24 : Nat) (x13 : Int) (V15 : pm_M), (0 ≤ x13 ∧ x13 ≤ 500) → pm_ok 0 90 V15 → pm_fr [3, 63, 67] V0 V15 → V15 72 1 = 63 → F_X3_readProduct 63 (pf_fac 63 1) V0 = pf_val ((0 : Int), V0) B19 (x13, V15) → (Int.toNat (500 - x13)) = N24 → pm_J X 12 [(0, (3, 72)), (1, (0, 7)), (2, (0, x13))] [] 118 V15 := by
      intro N24
      induction N24 using Nat.strongRecOn with
      | _ N24 ih25 =>
      intro x13 V15 b14 hV16 hF17 e18 hT hm23
      have hb21 := congrFun hB20 (x13, V15)
      refine pm_iload_n hC 2 dX3_readProduct_12 rfl ?_
      refine pm_sipush (v := 500) hC dX3_readProduct_13 (by decide) ?_
      refine pm_icmp_ge (tgt := 64) hC ⟨by omega, by omega⟩ ⟨by decide, by decide⟩ dX3_readProduct_16 (by decide) (fun c26 => ?_) (fun c26 => ?_)
      · skip
        replace hb21 := hb21.trans (if_pos c26)
        refine pm_iconst (v := 1) hC dX3_readProduct_64 ?_
        have hT := hT.trans (pf_val_inr hb21)
        exact pm_iret hC hR (pm_narZ (by omega)) ⟨1, rfl, ⟨by omega, by omega⟩, hV16, hF17, hT⟩ dX3_readProduct_65
      · skip
        replace hb21 := hb21.trans (if_neg (Int.not_le.mpr c26))
        refine pm_aload_n hC 0 (by decide) dX3_readProduct_19 rfl ?_
        have e27 : V15 72 0 = 3 := hV16.one 72 0 (by decide) (by decide) rfl
        refine pm_getf (v := 3) hC 72 fl_X3_9 rfl rfl (by decide) rfl e27 dX3_readProduct_20 ?_
        refine pm_bipush (v := 42) hC dX3_readProduct_23 (by decide) ?_
        obtain ⟨y28, e29⟩ : ∃ y, V15 3 3 = y := ⟨_, rfl⟩
        have b30 := hV16.get 3 3 (lo := (-9223372036854775808)) (hi := 9223372036854775807) (by decide) (by decide) rfl
        rw [e29] at b30
        replace hb21 := hb21.trans (pf_let_eq e29)
        refine pm_callV (ci := 9) (as := [(0, 42)]) (st := []) hC 3 (fC_X9_isSign 42 ⟨by decide, by decide⟩) lm_X3_67 li_X9_isSign (by decide) (by decide) rfl rfl rfl (by decide) rfl rfl (Nat.le_of_ble_eq_true rfl) ⟨Nat.le_refl _, Or.inl rfl⟩ dX3_readProduct_25 ⟨rfl, hV16⟩ (fun r31 V32 hp33 => ?_)
        obtain ⟨y34, rfl, b35, rfl, hE36⟩ := hp33
        replace hb21 := hb21.trans (pf_call_eq hE36)
        change pm_J X 28 [(0, (3, 72)), (1, (0, 7)), (2, (0, x13))] [(0, y34)] 118 V15
        refine pm_if_eq (tgt := 64) hC ⟨by omega, by omega⟩ dX3_readProduct_28 (by decide) (fun c37 => ?_) (fun c37 => ?_)
        · skip
          replace hb21 := hb21.trans (if_pos c37)
          refine pm_iconst (v := 1) hC dX3_readProduct_64 ?_
          have hT := hT.trans (pf_val_inr hb21)
          exact pm_iret hC hR (pm_narZ (by omega)) ⟨1, rfl, ⟨by omega, by omega⟩, hV16, hF17, hT⟩ dX3_readProduct_65
        · skip
          replace hb21 := hb21.trans (if_neg c37)
          refine pm_aload_n hC 0 (by decide) dX3_readProduct_31 rfl ?_
          refine pm_getf (v := 3) hC 72 fl_X3_9 rfl rfl (by decide) rfl e27 dX3_readProduct_32 ?_
          refine pm_callV (ci := 9) (as := []) (st := []) hC 3 fC_X9_step lm_X3_43 li_X9_step (by decide) (by decide) rfl rfl rfl (by decide) rfl rfl (Nat.le_of_ble_eq_true rfl) ⟨Nat.le_refl _, Or.inl rfl⟩ dX3_readProduct_35 ⟨rfl, hV16⟩ (fun r38 V39 hp40 => ?_)
          obtain ⟨rfl, hV41, hF42, hE43⟩ := hp40
          replace hb21 := hb21.trans (pf_call_eq hE43)
          change pm_J X 38 [(0, (3, 72)), (1, (0, 7)), (2, (0, x13))] [] 118 V39
          have hF44 := pm_fr.tr hF17 hF42 (by decide)
          have e45 : V39 72 1 = 63 := by rw [hF42 72 (by decide)]; exact e18
          have e46 : V39 72 0 = 3 := by rw [hF42 72 (by decide)]; exact e27
          refine pm_aload_n hC 0 (by decide) dX3_readProduct_38 rfl ?_
          refine pm_iload_n hC 1 dX3_readProduct_39 rfl ?_
          have q50 : 63 ≤ V39 72 1 ∧ V39 72 1 ≤ 63 := by (have e : V39 72 1 = 63 := e45); rw [e]; exact ⟨by decide, by decide⟩
          refine pm_callV (ci := 3) (as := [(0, 7)]) (st := []) hC 72 fC_X3_readFactor_63_d7 lm_X3_90 li_X3_readFactor (by decide) (by decide) rfl rfl rfl (by decide) rfl rfl (Nat.le_of_ble_eq_true rfl) ⟨Nat.le_refl _, Or.inl rfl⟩ dX3_readProduct_40 ⟨rfl, hV41, q50⟩ (fun r47 V48 hp49 => ?_)
          obtain ⟨y51, rfl, b52, hV53, hF54, hE55⟩ := hp49
          replace hb21 := hb21.trans (pf_call_eq hE55)
          change pm_J X 43 [(0, (3, 72)), (1, (0, 7)), (2, (0, x13))] [(0, y51)] 118 V48
          have hF56 := pm_fr.tr hF44 hF54 (by decide)
          have e57 : V48 72 1 = 63 := by rw [hF54 72 (by decide)]; exact e45
          have e58 : V48 72 0 = 3 := by rw [hF54 72 (by decide)]; exact e46
          refine pm_if_ne (tgt := 48) hC ⟨by omega, by omega⟩ dX3_readProduct_43 (by decide) (fun c59 => ?_) (fun c59 => ?_)
          · skip
            replace hb21 := hb21.trans (if_pos c59)
            refine pm_aload_n hC 0 (by decide) dX3_readProduct_48 rfl ?_
            refine pm_getf (v := 63) hC 72 fl_X3_15 rfl rfl (by decide) rfl e57 dX3_readProduct_49 ?_
            refine pm_sipush (v := 20042) hC dX3_readProduct_52 (by decide) ?_
            refine pm_callV (ci := 2) (as := [(0, 20042)]) (st := []) hC 63 (fC_X2_emit_63 20042 ⟨by decide, by decide⟩) lm_X3_57 li_X2_emit (by decide) (by decide) rfl rfl rfl (by decide) rfl rfl (Nat.le_of_ble_eq_true rfl) ⟨Nat.le_refl _, Or.inl rfl⟩ dX3_readProduct_55 ⟨rfl, hV53⟩ (fun r60 V61 hp62 => ?_)
            obtain ⟨rfl, hV63, hF64, hE65⟩ := hp62
            replace hb21 := hb21.trans (pf_call_eq hE65)
            change pm_J X 58 [(0, (3, 72)), (1, (0, 7)), (2, (0, x13))] [] 118 V61
            have hF66 := pm_fr.tr hF56 hF64 (by decide)
            have e67 : V61 72 1 = 63 := by rw [hF64 72 (by decide)]; exact e57
            have e68 : V61 72 0 = 3 := by rw [hF64 72 (by decide)]; exact e58
            obtain ⟨x69, ei70⟩ : ∃ y : Int, x13 + 1 = y := ⟨_, rfl⟩
            replace hb21 := hb21.trans (pf_let_eq ei70)
            refine pm_iinc (y := x69) (lv' := [(2, (0, x69)), (0, (3, 72)), (1, (0, 7))]) hC 2 dX3_readProduct_58 (by decide) rfl ei70 rfl ?_
            refine pm_goto (tgt := 12) hC dX3_readProduct_61 (by decide) ?_
            refine pm_lvsub [1, 2, 0] (lv' := [(0, (3, 72)), (1, (0, 7)), (2, (0, x69))]) rfl ?_
            exact ih25 _ (by omega) x69 V61 ⟨by omega, by omega⟩ hV63 hF66 e67 (hT.trans (pf_val_inl hb21)) rfl
          · skip
            replace hb21 := hb21.trans (if_neg (fun q => q c59))
            refine pm_iconst (v := 0) hC dX3_readProduct_46 ?_
            have hT := hT.trans (pf_val_inr hb21)
            exact pm_iret hC hR (pm_narZ (by omega)) ⟨0, rfl, ⟨by omega, by omega⟩, hV53, hF56, hT⟩ dX3_readProduct_47
    refine pm_lvsub [1, 2, 0] (lv' := [(0, (3, 72)), (1, (0, 7)), (2, (0, 0))]) rfl ?_
    exact L22 _ 0 V2 ⟨by decide, by decide⟩ hV7 hF10 e11 hT rfl
  · skip
    replace hT := hT.trans (if_neg (fun q => q c12))
    refine pm_iconst (v := 0) hC dX3_readProduct_8 ?_
    exact pm_iret hC hR (pm_narZ (by omega)) ⟨0, rfl, ⟨by omega, by omega⟩, hV7, hF10, hT⟩ dX3_readProduct_9
set_option maxHeartbeats 4000000 in
set_option maxRecDepth 100000 in
theorem fC_X3_readSum_63_d7  : pm_K 8 yX3_readSum cX3_readSum 4 (some .boolean) (fun av V => av = [(3, 72), (0, 7)] ∧ pm_ok 0 90 V ∧ (63 ≤ V 72 1 ∧ V 72 1 ≤ 63)) (fun _ V r V' => ∃ y, r = some (0, y) ∧ (0 ≤ y ∧ y ≤ 1) ∧ pm_ok 0 90 V' ∧ pm_fr [3, 63, 67] V V' ∧ F_X3_readSum 63 (pf_fac 63 1) V = (y, V')) := by
  refine pm_MT.of (by decide) ⟨Nat.le_refl _, by decide⟩ (fun av V h => by rw [h.1]; exact (by decide : pm_words [(3, 0), (0, 0)] ≤ 4)) ?_
  rintro X av V0 hC - hR ⟨rfl, hV0, hq0⟩
  change pm_J X 0 [(0, (3, 72)), (1, (0, 7))] [] 118 V0
  have hT := F_X3_readSum_eq 63 (pf_fac 63 1) V0
  obtain ⟨z0, ez0⟩ : ∃ z, V0 72 1 = z := ⟨_, rfl⟩
  rw [ez0] at hq0
  have en0 : V0 72 1 = 63 := by rw [ez0]; omega
  refine pm_aload_n hC 0 (by decide) dX3_readSum_0 rfl ?_
  refine pm_iload_n hC 1 dX3_readSum_1 rfl ?_
  have q4 : 63 ≤ V0 72 1 ∧ V0 72 1 ≤ 63 := by (have e : V0 72 1 = 63 := en0); rw [e]; exact ⟨by decide, by decide⟩
  refine pm_callV (ci := 3) (as := [(0, 7)]) (st := []) hC 72 fC_X3_readProduct_63_d7 lm_X3_87 li_X3_readProduct (by decide) (by decide) rfl rfl rfl (by decide) rfl rfl (Nat.le_of_ble_eq_true rfl) ⟨Nat.le_refl _, Or.inl rfl⟩ dX3_readSum_2 ⟨rfl, hV0, q4⟩ (fun r1 V2 hp3 => ?_)
  obtain ⟨y5, rfl, b6, hV7, hF8, hE9⟩ := hp3
  replace hT := hT.trans (pf_call_eq hE9)
  change pm_J X 5 [(0, (3, 72)), (1, (0, 7))] [(0, y5)] 118 V2
  have hF10 := pm_fr.tr (pm_fr.rf (ws := [3, 63, 67]) (V := V0)) hF8 (by decide)
  have e11 : V2 72 1 = 63 := by rw [hF8 72 (by decide)]; exact en0
  refine pm_if_ne (tgt := 10) hC ⟨by omega, by omega⟩ dX3_readSum_5 (by decide) (fun c12 => ?_) (fun c12 => ?_)
  · skip
    replace hT := hT.trans (if_pos c12)
    refine pm_iconst (v := 0) hC dX3_readSum_10 ?_
    refine pm_istore_n (lv' := [(2, (0, 0)), (0, (3, 72)), (1, (0, 7))]) hC dX3_readSum_11 (by decide) rfl ?_
    obtain ⟨B19, hB20, hT⟩ := pf_loop hT
    have L22 : ∀ (N24 : Nat) (x13 : Int) (V15 : pm_M), (0 ≤ x13 ∧ x13 ≤ 500) → pm_ok 0 90 V15 → pm_fr [3, 63, 67] V0 V15 → V15 72 1 = 63 → F_X3_readSum 63 (pf_fac 63 1) V0 = pf_val ((0 : Int), V0) B19 (x13, V15) → (Int.toNat (500 - x13)) = N24 → pm_J X 12 [(0, (3, 72)), (1, (0, 7)), (2, (0, x13))] [] 118 V15 := by
      intro N24
      induction N24 using Nat.strongRecOn with
      | _ N24 ih25 =>
      intro x13 V15 b14 hV16 hF17 e18 hT hm23
      have hb21 := congrFun hB20 (x13, V15)
      refine pm_iload_n hC 2 dX3_readSum_12 rfl ?_
      refine pm_sipush (v := 500) hC dX3_readSum_13 (by decide) ?_
      refine pm_icmp_ge (tgt := 87) hC ⟨by omega, by omega⟩ ⟨by decide, by decide⟩ dX3_readSum_16 (by decide) (fun c26 => ?_) (fun c26 => ?_)
      · skip
        replace hb21 := hb21.trans (if_pos c26)
        refine pm_iconst (v := 1) hC dX3_readSum_87 ?_
        have hT := hT.trans (pf_val_inr hb21)
        exact pm_iret hC hR (pm_narZ (by omega)) ⟨1, rfl, ⟨by omega, by omega⟩, hV16, hF17, hT⟩ dX3_readSum_88
      · skip
        replace hb21 := hb21.trans (if_neg (Int.not_le.mpr c26))
        refine pm_aload_n hC 0 (by decide) dX3_readSum_19 rfl ?_
        have e27 : V15 72 0 = 3 := hV16.one 72 0 (by decide) (by decide) rfl
        refine pm_getf (v := 3) hC 72 fl_X3_9 rfl rfl (by decide) rfl e27 dX3_readSum_20 ?_
        refine pm_bipush (v := 43) hC dX3_readSum_23 (by decide) ?_
        obtain ⟨y28, e29⟩ : ∃ y, V15 3 3 = y := ⟨_, rfl⟩
        have b30 := hV16.get 3 3 (lo := (-9223372036854775808)) (hi := 9223372036854775807) (by decide) (by decide) rfl
        rw [e29] at b30
        replace hb21 := hb21.trans (pf_let_eq e29)
        refine pm_callV (ci := 9) (as := [(0, 43)]) (st := []) hC 3 (fC_X9_isSign 43 ⟨by decide, by decide⟩) lm_X3_67 li_X9_isSign (by decide) (by decide) rfl rfl rfl (by decide) rfl rfl (Nat.le_of_ble_eq_true rfl) ⟨Nat.le_refl _, Or.inl rfl⟩ dX3_readSum_25 ⟨rfl, hV16⟩ (fun r31 V32 hp33 => ?_)
        obtain ⟨y34, rfl, b35, rfl, hE36⟩ := hp33
        replace hb21 := hb21.trans (pf_call_eq hE36)
        change pm_J X 28 [(0, (3, 72)), (1, (0, 7)), (2, (0, x13))] [(0, y34)] 118 V15
        refine pm_if_ne (tgt := 43) hC ⟨by omega, by omega⟩ dX3_readSum_28 (by decide) (fun c37 => ?_) (fun c37 => ?_)
        · skip
          replace hb21 := hb21.trans (if_pos c37)
          refine pm_aload_n hC 0 (by decide) dX3_readSum_43 rfl ?_
          refine pm_getf (v := 3) hC 72 fl_X3_9 rfl rfl (by decide) rfl e27 dX3_readSum_44 ?_
          refine pm_getf (v := y28) hC 3 fl_X3_53 rfl rfl (by decide) rfl e29 dX3_readSum_47 ?_
          refine pm_l2i hC dX3_readSum_50 ?_
          refine pm_istore_n (lv' := [(3, (0, y28)), (0, (3, 72)), (1, (0, 7)), (2, (0, x13))]) hC dX3_readSum_51 (by decide) rfl ?_
          refine pm_aload_n hC 1 (by decide) dX3_readSum_52 rfl ?_
          refine pm_getf (v := 3) hC 72 fl_X3_9 rfl rfl (by decide) rfl e27 dX3_readSum_53 ?_
          refine pm_callV (ci := 9) (as := []) (st := []) hC 3 fC_X9_step lm_X3_43 li_X9_step (by decide) (by decide) rfl rfl rfl (by decide) rfl rfl (Nat.le_of_ble_eq_true rfl) ⟨Nat.le_refl _, Or.inl rfl⟩ dX3_readSum_56 ⟨rfl, hV16⟩ (fun r38 V39 hp40 => ?_)
          obtain ⟨rfl, hV41, hF42, hE43⟩ := hp40
          replace hb21 := hb21.trans (pf_call_eq hE43)
          change pm_J X 59 [(3, (0, y28)), (0, (3, 72)), (1, (0, 7)), (2, (0, x13))] [] 118 V39
          have hF44 := pm_fr.tr hF17 hF42 (by decide)
          have e45 : V39 72 1 = 63 := by rw [hF42 72 (by decide)]; exact e18
          have e46 : V39 72 0 = 3 := by rw [hF42 72 (by decide)]; exact e27
          refine pm_aload_n hC 1 (by decide) dX3_readSum_59 rfl ?_
          refine pm_iload_n hC 2 dX3_readSum_60 rfl ?_
          have q50 : 63 ≤ V39 72 1 ∧ V39 72 1 ≤ 63 := by (have e : V39 72 1 = 63 := e45); rw [e]; exact ⟨by decide, by decide⟩
          refine pm_callV (ci := 3) (as := [(0, 7)]) (st := []) hC 72 fC_X3_readProduct_63_d7 lm_X3_87 li_X3_readProduct (by decide) (by decide) rfl rfl rfl (by decide) rfl rfl (Nat.le_of_ble_eq_true rfl) ⟨Nat.le_refl _, Or.inl rfl⟩ dX3_readSum_61 ⟨rfl, hV41, q50⟩ (fun r47 V48 hp49 => ?_)
          obtain ⟨y51, rfl, b52, hV53, hF54, hE55⟩ := hp49
          replace hb21 := hb21.trans (pf_call_eq hE55)
          change pm_J X 64 [(3, (0, y28)), (0, (3, 72)), (1, (0, 7)), (2, (0, x13))] [(0, y51)] 118 V48
          have hF56 := pm_fr.tr hF44 hF54 (by decide)
          have e57 : V48 72 1 = 63 := by rw [hF54 72 (by decide)]; exact e45
          have e58 : V48 72 0 = 3 := by rw [hF54 72 (by decide)]; exact e46
          refine pm_if_ne (tgt := 69) hC ⟨by omega, by omega⟩ dX3_readSum_64 (by decide) (fun c59 => ?_) (fun c59 => ?_)
          · skip
            replace hb21 := hb21.trans (if_pos c59)
            refine pm_aload_n hC 1 (by decide) dX3_readSum_69 rfl ?_
            refine pm_getf (v := 63) hC 72 fl_X3_15 rfl rfl (by decide) rfl e57 dX3_readSum_70 ?_
            refine pm_sipush (v := 20000) hC dX3_readSum_73 (by decide) ?_
            refine pm_iload_n hC 0 dX3_readSum_76 rfl ?_
            refine pm_iadd hC dX3_readSum_77 ?_
            refine pm_callV (ci := 2) (as := [(0, (20000 + y28))]) (st := []) hC 63 (fC_X2_emit_63 (20000 + y28) ⟨by omega, by omega⟩) lm_X3_57 li_X2_emit (by decide) (by decide) rfl rfl rfl (by decide) rfl rfl (Nat.le_of_ble_eq_true rfl) ⟨Nat.le_refl _, Or.inl rfl⟩ dX3_readSum_78 ⟨rfl, hV53⟩ (fun r60 V61 hp62 => ?_)
            obtain ⟨rfl, hV63, hF64, hE65⟩ := hp62
            replace hb21 := hb21.trans (pf_call_eq hE65)
            change pm_J X 81 [(3, (0, y28)), (0, (3, 72)), (1, (0, 7)), (2, (0, x13))] [] 118 V61
            have hF66 := pm_fr.tr hF56 hF64 (by decide)
            have e67 : V61 72 1 = 63 := by rw [hF64 72 (by decide)]; exact e57
            have e68 : V61 72 0 = 3 := by rw [hF64 72 (by decide)]; exact e58
            obtain ⟨x69, ei70⟩ : ∃ y : Int, x13 + 1 = y := ⟨_, rfl⟩
            replace hb21 := hb21.trans (pf_let_eq ei70)
            refine pm_iinc (y := x69) (lv' := [(2, (0, x69)), (3, (0, y28)), (0, (3, 72)), (1, (0, 7))]) hC 3 dX3_readSum_81 (by decide) rfl ei70 rfl ?_
            refine pm_goto (tgt := 12) hC dX3_readSum_84 (by decide) ?_
            refine pm_lvsub [2, 3, 0] (lv' := [(0, (3, 72)), (1, (0, 7)), (2, (0, x69))]) rfl ?_
            exact ih25 _ (by omega) x69 V61 ⟨by omega, by omega⟩ hV63 hF66 e67 (hT.trans (pf_val_inl hb21)) rfl
          · skip
            replace hb21 := hb21.trans (if_neg (fun q => q c59))
            refine pm_iconst (v := 0) hC dX3_readSum_67 ?_
            have hT := hT.trans (pf_val_inr hb21)
            exact pm_iret hC hR (pm_narZ (by omega)) ⟨0, rfl, ⟨by omega, by omega⟩, hV53, hF56, hT⟩ dX3_readSum_68
        · skip
          replace hb21 := hb21.trans (if_neg (fun q => q c37))
          refine pm_aload_n hC 0 (by decide) dX3_readSum_31 rfl ?_
          refine pm_getf (v := 3) hC 72 fl_X3_9 rfl rfl (by decide) rfl e27 dX3_readSum_32 ?_
          refine pm_bipush (v := 45) hC dX3_readSum_35 (by decide) ?_
          refine pm_callV (ci := 9) (as := [(0, 45)]) (st := []) hC 3 (fC_X9_isSign 45 ⟨by decide, by decide⟩) lm_X3_67 li_X9_isSign (by decide) (by decide) rfl rfl rfl (by decide) rfl rfl (Nat.le_of_ble_eq_true rfl) ⟨Nat.le_refl _, Or.inl rfl⟩ dX3_readSum_37 ⟨rfl, hV16⟩ (fun r71 V72 hp73 => ?_)
          obtain ⟨y74, rfl, b75, rfl, hE76⟩ := hp73
          replace hb21 := hb21.trans (pf_call_eq hE76)
          change pm_J X 40 [(0, (3, 72)), (1, (0, 7)), (2, (0, x13))] [(0, y74)] 118 V15
          refine pm_if_eq (tgt := 87) hC ⟨by omega, by omega⟩ dX3_readSum_40 (by decide) (fun c77 => ?_) (fun c77 => ?_)
          · skip
            replace hb21 := hb21.trans (if_pos c77)
            refine pm_iconst (v := 1) hC dX3_readSum_87 ?_
            have hT := hT.trans (pf_val_inr hb21)
            exact pm_iret hC hR (pm_narZ (by omega)) ⟨1, rfl, ⟨by omega, by omega⟩, hV16, hF17, hT⟩ dX3_readSum_88
          · skip
            replace hb21 := hb21.trans (if_neg c77)
            refine pm_aload_n hC 0 (by decide) dX3_readSum_43 rfl ?_
            refine pm_getf (v := 3) hC 72 fl_X3_9 rfl rfl (by decide) rfl e27 dX3_readSum_44 ?_
            refine pm_getf (v := y28) hC 3 fl_X3_53 rfl rfl (by decide) rfl e29 dX3_readSum_47 ?_
            refine pm_l2i hC dX3_readSum_50 ?_
            refine pm_istore_n (lv' := [(3, (0, y28)), (0, (3, 72)), (1, (0, 7)), (2, (0, x13))]) hC dX3_readSum_51 (by decide) rfl ?_
            refine pm_aload_n hC 1 (by decide) dX3_readSum_52 rfl ?_
            refine pm_getf (v := 3) hC 72 fl_X3_9 rfl rfl (by decide) rfl e27 dX3_readSum_53 ?_
            refine pm_callV (ci := 9) (as := []) (st := []) hC 3 fC_X9_step lm_X3_43 li_X9_step (by decide) (by decide) rfl rfl rfl (by decide) rfl rfl (Nat.le_of_ble_eq_true rfl) ⟨Nat.le_refl _, Or.inl rfl⟩ dX3_readSum_56 ⟨rfl, hV16⟩ (fun r78 V79 hp80 => ?_)
            obtain ⟨rfl, hV81, hF82, hE83⟩ := hp80
            replace hb21 := hb21.trans (pf_call_eq hE83)
            change pm_J X 59 [(3, (0, y28)), (0, (3, 72)), (1, (0, 7)), (2, (0, x13))] [] 118 V79
            have hF84 := pm_fr.tr hF17 hF82 (by decide)
            have e85 : V79 72 1 = 63 := by rw [hF82 72 (by decide)]; exact e18
            have e86 : V79 72 0 = 3 := by rw [hF82 72 (by decide)]; exact e27
            refine pm_aload_n hC 1 (by decide) dX3_readSum_59 rfl ?_
            refine pm_iload_n hC 2 dX3_readSum_60 rfl ?_
            have q90 : 63 ≤ V79 72 1 ∧ V79 72 1 ≤ 63 := by (have e : V79 72 1 = 63 := e85); rw [e]; exact ⟨by decide, by decide⟩
            refine pm_callV (ci := 3) (as := [(0, 7)]) (st := []) hC 72 fC_X3_readProduct_63_d7 lm_X3_87 li_X3_readProduct (by decide) (by decide) rfl rfl rfl (by decide) rfl rfl (Nat.le_of_ble_eq_true rfl) ⟨Nat.le_refl _, Or.inl rfl⟩ dX3_readSum_61 ⟨rfl, hV81, q90⟩ (fun r87 V88 hp89 => ?_)
            obtain ⟨y91, rfl, b92, hV93, hF94, hE95⟩ := hp89
            replace hb21 := hb21.trans (pf_call_eq hE95)
            change pm_J X 64 [(3, (0, y28)), (0, (3, 72)), (1, (0, 7)), (2, (0, x13))] [(0, y91)] 118 V88
            have hF96 := pm_fr.tr hF84 hF94 (by decide)
            have e97 : V88 72 1 = 63 := by rw [hF94 72 (by decide)]; exact e85
            have e98 : V88 72 0 = 3 := by rw [hF94 72 (by decide)]; exact e86
            refine pm_if_ne (tgt := 69) hC ⟨by omega, by omega⟩ dX3_readSum_64 (by decide) (fun c99 => ?_) (fun c99 => ?_)
            · skip
              replace hb21 := hb21.trans (if_pos c99)
              refine pm_aload_n hC 1 (by decide) dX3_readSum_69 rfl ?_
              refine pm_getf (v := 63) hC 72 fl_X3_15 rfl rfl (by decide) rfl e97 dX3_readSum_70 ?_
              refine pm_sipush (v := 20000) hC dX3_readSum_73 (by decide) ?_
              refine pm_iload_n hC 0 dX3_readSum_76 rfl ?_
              refine pm_iadd hC dX3_readSum_77 ?_
              refine pm_callV (ci := 2) (as := [(0, (20000 + y28))]) (st := []) hC 63 (fC_X2_emit_63 (20000 + y28) ⟨by omega, by omega⟩) lm_X3_57 li_X2_emit (by decide) (by decide) rfl rfl rfl (by decide) rfl rfl (Nat.le_of_ble_eq_true rfl) ⟨Nat.le_refl _, Or.inl rfl⟩ dX3_readSum_78 ⟨rfl, hV93⟩ (fun r100 V101 hp102 => ?_)
              obtain ⟨rfl, hV103, hF104, hE105⟩ := hp102
              replace hb21 := hb21.trans (pf_call_eq hE105)
              change pm_J X 81 [(3, (0, y28)), (0, (3, 72)), (1, (0, 7)), (2, (0, x13))] [] 118 V101
              have hF106 := pm_fr.tr hF96 hF104 (by decide)
              have e107 : V101 72 1 = 63 := by rw [hF104 72 (by decide)]; exact e97
              have e108 : V101 72 0 = 3 := by rw [hF104 72 (by decide)]; exact e98
              obtain ⟨x109, ei110⟩ : ∃ y : Int, x13 + 1 = y := ⟨_, rfl⟩
              replace hb21 := hb21.trans (pf_let_eq ei110)
              refine pm_iinc (y := x109) (lv' := [(2, (0, x109)), (3, (0, y28)), (0, (3, 72)), (1, (0, 7))]) hC 3 dX3_readSum_81 (by decide) rfl ei110 rfl ?_
              refine pm_goto (tgt := 12) hC dX3_readSum_84 (by decide) ?_
              refine pm_lvsub [2, 3, 0] (lv' := [(0, (3, 72)), (1, (0, 7)), (2, (0, x109))]) rfl ?_
              exact ih25 _ (by omega) x109 V101 ⟨by omega, by omega⟩ hV103 hF106 e107 (hT.trans (pf_val_inl hb21)) rfl
            · skip
              replace hb21 := hb21.trans (if_neg (fun q => q c99))
              refine pm_iconst (v := 0) hC dX3_readSum_67 ?_
              have hT := hT.trans (pf_val_inr hb21)
              exact pm_iret hC hR (pm_narZ (by omega)) ⟨0, rfl, ⟨by omega, by omega⟩, hV93, hF96, hT⟩ dX3_readSum_68
    refine pm_lvsub [1, 2, 0] (lv' := [(0, (3, 72)), (1, (0, 7)), (2, (0, 0))]) rfl ?_
    exact L22 _ 0 V2 ⟨by decide, by decide⟩ hV7 hF10 e11 hT rfl
  · skip
    replace hT := hT.trans (if_neg (fun q => q c12))
    refine pm_iconst (v := 0) hC dX3_readSum_8 ?_
    exact pm_iret hC hR (pm_narZ (by omega)) ⟨0, rfl, ⟨by omega, by omega⟩, hV7, hF10, hT⟩ dX3_readSum_9
set_option maxHeartbeats 4000000 in
set_option maxRecDepth 100000 in
theorem fC_X3_readFactor_63_d6  : pm_K 9 yX3_readFactor cX3_readFactor 3 (some .boolean) (fun av V => av = [(3, 72), (0, 6)] ∧ pm_ok 0 90 V ∧ (63 ≤ V 72 1 ∧ V 72 1 ≤ 63)) (fun _ V r V' => ∃ y, r = some (0, y) ∧ (0 ≤ y ∧ y ≤ 1) ∧ pm_ok 0 90 V' ∧ pm_fr [3, 63, 67] V V' ∧ pf_fac 63 2 V = (y, V')) := by
  refine pm_MT.of (by decide) ⟨Nat.le_refl _, by decide⟩ (fun av V h => by rw [h.1]; exact (by decide : pm_words [(3, 0), (0, 0)] ≤ 3)) ?_
  rintro X av V0 hC - hR ⟨rfl, hV0, hq0⟩
  change pm_J X 0 [(0, (3, 72)), (1, (0, 6))] [] 118 V0
  have hT := F_X3_readFactor_eq 63 (F_X3_readSum 63 (pf_fac 63 1)) V0
  obtain ⟨z0, ez0⟩ : ∃ z, V0 72 1 = z := ⟨_, rfl⟩
  rw [ez0] at hq0
  have en0 : V0 72 1 = 63 := by rw [ez0]; omega
  refine pm_aload_n hC 0 (by decide) dX3_readFactor_0 rfl ?_
  have q4 : 63 ≤ V0 72 1 ∧ V0 72 1 ≤ 63 := by (have e : V0 72 1 = 63 := en0); rw [e]; exact ⟨by decide, by decide⟩
  refine pm_callV (ci := 3) (as := []) (st := []) hC 72 fC_X3_codeOfToken_63 lm_X3_93 li_X3_codeOfToken (by decide) (by decide) rfl rfl rfl (by decide) rfl rfl (Nat.le_of_ble_eq_true rfl) ⟨Nat.le_refl _, Or.inl rfl⟩ dX3_readFactor_1 ⟨rfl, hV0, q4⟩ (fun r1 V2 hp3 => ?_)
  obtain ⟨y5, rfl, b6, rfl, hE7⟩ := hp3
  replace hT := hT.trans (pf_call_eq hE7)
  change pm_J X 4 [(0, (3, 72)), (1, (0, 6))] [(0, y5)] 118 V0
  refine pm_istore_n (lv' := [(2, (0, y5)), (0, (3, 72)), (1, (0, 6))]) hC dX3_readFactor_4 (by decide) rfl ?_
  refine pm_iload_n hC 0 dX3_readFactor_5 rfl ?_
  refine pm_iconst (v := (-1)) hC dX3_readFactor_6 ?_
  refine pm_icmp_eq (tgt := 27) hC ⟨by omega, by omega⟩ ⟨by decide, by decide⟩ dX3_readFactor_7 (by decide) (fun c8 => ?_) (fun c8 => ?_)
  · skip
    replace hT := hT.trans (if_pos c8)
    refine pm_iload_n hC 2 dX3_readFactor_27 rfl ?_
    refine pm_bipush (v := 8) hC dX3_readFactor_28 (by decide) ?_
    refine pm_icmp_ge (tgt := 45) hC ⟨by decide, by decide⟩ ⟨by decide, by decide⟩ dX3_readFactor_30 (by decide) (fun c9 => ?_) (fun c9 => ?_)
    · skip
      exfalso; omega
    · skip
      refine pm_aload_n hC 1 (by decide) dX3_readFactor_33 rfl ?_
      have e10 : V0 72 0 = 3 := hV0.one 72 0 (by decide) (by decide) rfl
      refine pm_getf (v := 3) hC 72 fl_X3_9 rfl rfl (by decide) rfl e10 dX3_readFactor_34 ?_
      refine pm_bipush (v := 40) hC dX3_readFactor_37 (by decide) ?_
      obtain ⟨y11, e12⟩ : ∃ y, V0 3 3 = y := ⟨_, rfl⟩
      have b13 := hV0.get 3 3 (lo := (-9223372036854775808)) (hi := 9223372036854775807) (by decide) (by decide) rfl
      rw [e12] at b13
      replace hT := hT.trans (pf_let_eq e12)
      refine pm_callV (ci := 9) (as := [(0, 40)]) (st := []) hC 3 (fC_X9_isSign 40 ⟨by decide, by decide⟩) lm_X3_67 li_X9_isSign (by decide) (by decide) rfl rfl rfl (by decide) rfl rfl (Nat.le_of_ble_eq_true rfl) ⟨Nat.le_refl _, Or.inl rfl⟩ dX3_readFactor_39 ⟨rfl, hV0⟩ (fun r14 V15 hp16 => ?_)
      obtain ⟨y17, rfl, b18, rfl, hE19⟩ := hp16
      replace hT := hT.trans (pf_call_eq hE19)
      change pm_J X 42 [(2, (0, y5)), (0, (3, 72)), (1, (0, 6))] [(0, y17)] 118 V0
      refine pm_if_ne (tgt := 47) hC ⟨by omega, by omega⟩ dX3_readFactor_42 (by decide) (fun c20 => ?_) (fun c20 => ?_)
      · skip
        replace hT := hT.trans (if_pos c20)
        refine pm_aload_n hC 1 (by decide) dX3_readFactor_47 rfl ?_
        refine pm_getf (v := 3) hC 72 fl_X3_9 rfl rfl (by decide) rfl e10 dX3_readFactor_48 ?_
        refine pm_callV (ci := 9) (as := []) (st := []) hC 3 fC_X9_step lm_X3_43 li_X9_step (by decide) (by decide) rfl rfl rfl (by decide) rfl rfl (Nat.le_of_ble_eq_true rfl) ⟨Nat.le_refl _, Or.inl rfl⟩ dX3_readFactor_51 ⟨rfl, hV0⟩ (fun r21 V22 hp23 => ?_)
        obtain ⟨rfl, hV24, hF25, hE26⟩ := hp23
        replace hT := hT.trans (pf_call_eq hE26)
        change pm_J X 54 [(2, (0, y5)), (0, (3, 72)), (1, (0, 6))] [] 118 V22
        have hF27 := pm_fr.tr (pm_fr.rf (ws := [3, 63, 67]) (V := V0)) hF25 (by decide)
        have e28 : V22 72 1 = 63 := by rw [hF25 72 (by decide)]; exact en0
        have e29 : V22 72 0 = 3 := by rw [hF25 72 (by decide)]; exact e10
        refine pm_aload_n hC 1 (by decide) dX3_readFactor_54 rfl ?_
        refine pm_iload_n hC 2 dX3_readFactor_55 rfl ?_
        refine pm_iconst (v := 1) hC dX3_readFactor_56 ?_
        refine pm_iadd hC dX3_readFactor_57 ?_
        change pm_J X 58 [(2, (0, y5)), (0, (3, 72)), (1, (0, 6))] [(0, 7), (3, 72)] 118 V22
        have q33 : 63 ≤ V22 72 1 ∧ V22 72 1 ≤ 63 := by (have e : V22 72 1 = 63 := e28); rw [e]; exact ⟨by decide, by decide⟩
        refine pm_callV (ci := 3) (as := [(0, 7)]) (st := []) hC 72 fC_X3_readSum_63_d7 lm_X3_46 li_X3_readSum (by decide) (by decide) rfl rfl rfl (by decide) rfl rfl (Nat.le_of_ble_eq_true rfl) ⟨Nat.le_refl _, Or.inl rfl⟩ dX3_readFactor_58 ⟨rfl, hV24, q33⟩ (fun r30 V31 hp32 => ?_)
        obtain ⟨y34, rfl, b35, hV36, hF37, hE38⟩ := hp32
        replace hT := hT.trans (pf_call_eq hE38)
        change pm_J X 61 [(2, (0, y5)), (0, (3, 72)), (1, (0, 6))] [(0, y34)] 118 V31
        have hF39 := pm_fr.tr hF27 hF37 (by decide)
        have e40 : V31 72 1 = 63 := by rw [hF37 72 (by decide)]; exact e28
        have e41 : V31 72 0 = 3 := by rw [hF37 72 (by decide)]; exact e29
        refine pm_if_eq (tgt := 76) hC ⟨by omega, by omega⟩ dX3_readFactor_61 (by decide) (fun c42 => ?_) (fun c42 => ?_)
        · skip
          replace hT := hT.trans (if_pos c42)
          refine pm_iconst (v := 0) hC dX3_readFactor_76 ?_
          exact pm_iret hC hR (pm_narZ (by omega)) ⟨0, rfl, ⟨by omega, by omega⟩, hV36, hF39, hT⟩ dX3_readFactor_77
        · skip
          replace hT := hT.trans (if_neg c42)
          refine pm_aload_n hC 1 (by decide) dX3_readFactor_64 rfl ?_
          refine pm_getf (v := 3) hC 72 fl_X3_9 rfl rfl (by decide) rfl e41 dX3_readFactor_65 ?_
          refine pm_bipush (v := 41) hC dX3_readFactor_68 (by decide) ?_
          obtain ⟨y43, e44⟩ : ∃ y, V31 3 3 = y := ⟨_, rfl⟩
          have b45 := hV36.get 3 3 (lo := (-9223372036854775808)) (hi := 9223372036854775807) (by decide) (by decide) rfl
          rw [e44] at b45
          replace hT := hT.trans (pf_let_eq e44)
          refine pm_callV (ci := 9) (as := [(0, 41)]) (st := []) hC 3 (fC_X9_isSign 41 ⟨by decide, by decide⟩) lm_X3_67 li_X9_isSign (by decide) (by decide) rfl rfl rfl (by decide) rfl rfl (Nat.le_of_ble_eq_true rfl) ⟨Nat.le_refl _, Or.inl rfl⟩ dX3_readFactor_70 ⟨rfl, hV36⟩ (fun r46 V47 hp48 => ?_)
          obtain ⟨y49, rfl, b50, rfl, hE51⟩ := hp48
          replace hT := hT.trans (pf_call_eq hE51)
          change pm_J X 73 [(2, (0, y5)), (0, (3, 72)), (1, (0, 6))] [(0, y49)] 118 V31
          refine pm_if_ne (tgt := 78) hC ⟨by omega, by omega⟩ dX3_readFactor_73 (by decide) (fun c52 => ?_) (fun c52 => ?_)
          · skip
            replace hT := hT.trans (if_pos c52)
            refine pm_aload_n hC 1 (by decide) dX3_readFactor_78 rfl ?_
            refine pm_getf (v := 3) hC 72 fl_X3_9 rfl rfl (by decide) rfl e41 dX3_readFactor_79 ?_
            refine pm_callV (ci := 9) (as := []) (st := []) hC 3 fC_X9_step lm_X3_43 li_X9_step (by decide) (by decide) rfl rfl rfl (by decide) rfl rfl (Nat.le_of_ble_eq_true rfl) ⟨Nat.le_refl _, Or.inl rfl⟩ dX3_readFactor_82 ⟨rfl, hV36⟩ (fun r53 V54 hp55 => ?_)
            obtain ⟨rfl, hV56, hF57, hE58⟩ := hp55
            replace hT := hT.trans (pf_call_eq hE58)
            change pm_J X 85 [(2, (0, y5)), (0, (3, 72)), (1, (0, 6))] [] 118 V54
            have hF59 := pm_fr.tr hF39 hF57 (by decide)
            have e60 : V54 72 1 = 63 := by rw [hF57 72 (by decide)]; exact e40
            have e61 : V54 72 0 = 3 := by rw [hF57 72 (by decide)]; exact e41
            refine pm_iconst (v := 1) hC dX3_readFactor_85 ?_
            exact pm_iret hC hR (pm_narZ (by omega)) ⟨1, rfl, ⟨by omega, by omega⟩, hV56, hF59, hT⟩ dX3_readFactor_86
          · skip
            replace hT := hT.trans (if_neg (fun q => q c52))
            refine pm_iconst (v := 0) hC dX3_readFactor_76 ?_
            exact pm_iret hC hR (pm_narZ (by omega)) ⟨0, rfl, ⟨by omega, by omega⟩, hV36, hF39, hT⟩ dX3_readFactor_77
      · skip
        replace hT := hT.trans (if_neg (fun q => q c20))
        refine pm_iconst (v := 0) hC dX3_readFactor_45 ?_
        exact pm_iret hC hR (pm_narZ (by omega)) ⟨0, rfl, ⟨by omega, by omega⟩, hV0, (pm_fr.rf (ws := [3, 63, 67]) (V := V0)), hT⟩ dX3_readFactor_46
  · skip
    replace hT := hT.trans (if_neg c8)
    refine pm_aload_n hC 1 (by decide) dX3_readFactor_10 rfl ?_
    refine pm_getf (v := 63) hC 72 fl_X3_15 rfl rfl (by decide) rfl en0 dX3_readFactor_11 ?_
    refine pm_iload_n hC 0 dX3_readFactor_14 rfl ?_
    refine pm_callV (ci := 2) (as := [(0, y5)]) (st := []) hC 63 (fC_X2_emit_63 y5 ⟨by omega, by omega⟩) lm_X3_57 li_X2_emit (by decide) (by decide) rfl rfl rfl (by decide) rfl rfl (Nat.le_of_ble_eq_true rfl) ⟨Nat.le_refl _, Or.inl rfl⟩ dX3_readFactor_15 ⟨rfl, hV0⟩ (fun r62 V63 hp64 => ?_)
    obtain ⟨rfl, hV65, hF66, hE67⟩ := hp64
    replace hT := hT.trans (pf_call_eq hE67)
    change pm_J X 18 [(2, (0, y5)), (0, (3, 72)), (1, (0, 6))] [] 118 V63
    have hF68 := pm_fr.tr (pm_fr.rf (ws := [3, 63, 67]) (V := V0)) hF66 (by decide)
    have e69 : V63 72 1 = 63 := by rw [hF66 72 (by decide)]; exact en0
    refine pm_aload_n hC 1 (by decide) dX3_readFactor_18 rfl ?_
    have e70 : V63 72 0 = 3 := hV65.one 72 0 (by decide) (by decide) rfl
    refine pm_getf (v := 3) hC 72 fl_X3_9 rfl rfl (by decide) rfl e70 dX3_readFactor_19 ?_
    refine pm_callV (ci := 9) (as := []) (st := []) hC 3 fC_X9_step lm_X3_43 li_X9_step (by decide) (by decide) rfl rfl rfl (by decide) rfl rfl (Nat.le_of_ble_eq_true rfl) ⟨Nat.le_refl _, Or.inl rfl⟩ dX3_readFactor_22 ⟨rfl, hV65⟩ (fun r71 V72 hp73 => ?_)
    obtain ⟨rfl, hV74, hF75, hE76⟩ := hp73
    replace hT := hT.trans (pf_call_eq hE76)
    change pm_J X 25 [(2, (0, y5)), (0, (3, 72)), (1, (0, 6))] [] 118 V72
    have hF77 := pm_fr.tr hF68 hF75 (by decide)
    have e78 : V72 72 1 = 63 := by rw [hF75 72 (by decide)]; exact e69
    have e79 : V72 72 0 = 3 := by rw [hF75 72 (by decide)]; exact e70
    refine pm_iconst (v := 1) hC dX3_readFactor_25 ?_
    exact pm_iret hC hR (pm_narZ (by omega)) ⟨1, rfl, ⟨by omega, by omega⟩, hV74, hF77, hT⟩ dX3_readFactor_26
set_option maxHeartbeats 4000000 in
set_option maxRecDepth 100000 in
theorem fC_X3_readProduct_63_d6  : pm_K 10 yX3_readProduct cX3_readProduct 3 (some .boolean) (fun av V => av = [(3, 72), (0, 6)] ∧ pm_ok 0 90 V ∧ (63 ≤ V 72 1 ∧ V 72 1 ≤ 63)) (fun _ V r V' => ∃ y, r = some (0, y) ∧ (0 ≤ y ∧ y ≤ 1) ∧ pm_ok 0 90 V' ∧ pm_fr [3, 63, 67] V V' ∧ F_X3_readProduct 63 (pf_fac 63 2) V = (y, V')) := by
  refine pm_MT.of (by decide) ⟨Nat.le_refl _, by decide⟩ (fun av V h => by rw [h.1]; exact (by decide : pm_words [(3, 0), (0, 0)] ≤ 3)) ?_
  rintro X av V0 hC - hR ⟨rfl, hV0, hq0⟩
  change pm_J X 0 [(0, (3, 72)), (1, (0, 6))] [] 118 V0
  have hT := F_X3_readProduct_eq 63 (pf_fac 63 2) V0
  obtain ⟨z0, ez0⟩ : ∃ z, V0 72 1 = z := ⟨_, rfl⟩
  rw [ez0] at hq0
  have en0 : V0 72 1 = 63 := by rw [ez0]; omega
  refine pm_aload_n hC 0 (by decide) dX3_readProduct_0 rfl ?_
  refine pm_iload_n hC 1 dX3_readProduct_1 rfl ?_
  have q4 : 63 ≤ V0 72 1 ∧ V0 72 1 ≤ 63 := by (have e : V0 72 1 = 63 := en0); rw [e]; exact ⟨by decide, by decide⟩
  refine pm_callV (ci := 3) (as := [(0, 6)]) (st := []) hC 72 fC_X3_readFactor_63_d6 lm_X3_90 li_X3_readFactor (by decide) (by decide) rfl rfl rfl (by decide) rfl rfl (Nat.le_of_ble_eq_true rfl) ⟨Nat.le_refl _, Or.inl rfl⟩ dX3_readProduct_2 ⟨rfl, hV0, q4⟩ (fun r1 V2 hp3 => ?_)
  obtain ⟨y5, rfl, b6, hV7, hF8, hE9⟩ := hp3
  replace hT := hT.trans (pf_call_eq hE9)
  change pm_J X 5 [(0, (3, 72)), (1, (0, 6))] [(0, y5)] 118 V2
  have hF10 := pm_fr.tr (pm_fr.rf (ws := [3, 63, 67]) (V := V0)) hF8 (by decide)
  have e11 : V2 72 1 = 63 := by rw [hF8 72 (by decide)]; exact en0
  refine pm_if_ne (tgt := 10) hC ⟨by omega, by omega⟩ dX3_readProduct_5 (by decide) (fun c12 => ?_) (fun c12 => ?_)
  · skip
    replace hT := hT.trans (if_pos c12)
    refine pm_iconst (v := 0) hC dX3_readProduct_10 ?_
    refine pm_istore_n (lv' := [(2, (0, 0)), (0, (3, 72)), (1, (0, 6))]) hC dX3_readProduct_11 (by decide) rfl ?_
    obtain ⟨B19, hB20, hT⟩ := pf_loop hT
    have L22 : ∀ (N24 : Nat) (x13 : Int) (V15 : pm_M), (0 ≤ x13 ∧ x13 ≤ 500) → pm_ok 0 90 V15 → pm_fr [3, 63, 67] V0 V15 → V15 72 1 = 63 → F_X3_readProduct 63 (pf_fac 63 2) V0 = pf_val ((0 : Int), V0) B19 (x13, V15) → (Int.toNat (500 - x13)) = N24 → pm_J X 12 [(0, (3, 72)), (1, (0, 6)), (2, (0, x13))] [] 118 V15 := by
      intro N24
      induction N24 using Nat.strongRecOn with
      | _ N24 ih25 =>
      intro x13 V15 b14 hV16 hF17 e18 hT hm23
      have hb21 := congrFun hB20 (x13, V15)
      refine pm_iload_n hC 2 dX3_readProduct_12 rfl ?_
      refine pm_sipush (v := 500) hC dX3_readProduct_13 (by decide) ?_
      refine pm_icmp_ge (tgt := 64) hC ⟨by omega, by omega⟩ ⟨by decide, by decide⟩ dX3_readProduct_16 (by decide) (fun c26 => ?_) (fun c26 => ?_)
      · skip
        replace hb21 := hb21.trans (if_pos c26)
        refine pm_iconst (v := 1) hC dX3_readProduct_64 ?_
        have hT := hT.trans (pf_val_inr hb21)
        exact pm_iret hC hR (pm_narZ (by omega)) ⟨1, rfl, ⟨by omega, by omega⟩, hV16, hF17, hT⟩ dX3_readProduct_65
      · skip
        replace hb21 := hb21.trans (if_neg (Int.not_le.mpr c26))
        refine pm_aload_n hC 0 (by decide) dX3_readProduct_19 rfl ?_
        have e27 : V15 72 0 = 3 := hV16.one 72 0 (by decide) (by decide) rfl
        refine pm_getf (v := 3) hC 72 fl_X3_9 rfl rfl (by decide) rfl e27 dX3_readProduct_20 ?_
        refine pm_bipush (v := 42) hC dX3_readProduct_23 (by decide) ?_
        obtain ⟨y28, e29⟩ : ∃ y, V15 3 3 = y := ⟨_, rfl⟩
        have b30 := hV16.get 3 3 (lo := (-9223372036854775808)) (hi := 9223372036854775807) (by decide) (by decide) rfl
        rw [e29] at b30
        replace hb21 := hb21.trans (pf_let_eq e29)
        refine pm_callV (ci := 9) (as := [(0, 42)]) (st := []) hC 3 (fC_X9_isSign 42 ⟨by decide, by decide⟩) lm_X3_67 li_X9_isSign (by decide) (by decide) rfl rfl rfl (by decide) rfl rfl (Nat.le_of_ble_eq_true rfl) ⟨Nat.le_refl _, Or.inl rfl⟩ dX3_readProduct_25 ⟨rfl, hV16⟩ (fun r31 V32 hp33 => ?_)
        obtain ⟨y34, rfl, b35, rfl, hE36⟩ := hp33
        replace hb21 := hb21.trans (pf_call_eq hE36)
        change pm_J X 28 [(0, (3, 72)), (1, (0, 6)), (2, (0, x13))] [(0, y34)] 118 V15
        refine pm_if_eq (tgt := 64) hC ⟨by omega, by omega⟩ dX3_readProduct_28 (by decide) (fun c37 => ?_) (fun c37 => ?_)
        · skip
          replace hb21 := hb21.trans (if_pos c37)
          refine pm_iconst (v := 1) hC dX3_readProduct_64 ?_
          have hT := hT.trans (pf_val_inr hb21)
          exact pm_iret hC hR (pm_narZ (by omega)) ⟨1, rfl, ⟨by omega, by omega⟩, hV16, hF17, hT⟩ dX3_readProduct_65
        · skip
          replace hb21 := hb21.trans (if_neg c37)
          refine pm_aload_n hC 0 (by decide) dX3_readProduct_31 rfl ?_
          refine pm_getf (v := 3) hC 72 fl_X3_9 rfl rfl (by decide) rfl e27 dX3_readProduct_32 ?_
          refine pm_callV (ci := 9) (as := []) (st := []) hC 3 fC_X9_step lm_X3_43 li_X9_step (by decide) (by decide) rfl rfl rfl (by decide) rfl rfl (Nat.le_of_ble_eq_true rfl) ⟨Nat.le_refl _, Or.inl rfl⟩ dX3_readProduct_35 ⟨rfl, hV16⟩ (fun r38 V39 hp40 => ?_)
          obtain ⟨rfl, hV41, hF42, hE43⟩ := hp40
          replace hb21 := hb21.trans (pf_call_eq hE43)
          change pm_J X 38 [(0, (3, 72)), (1, (0, 6)), (2, (0, x13))] [] 118 V39
          have hF44 := pm_fr.tr hF17 hF42 (by decide)
          have e45 : V39 72 1 = 63 := by rw [hF42 72 (by decide)]; exact e18
          have e46 : V39 72 0 = 3 := by rw [hF42 72 (by decide)]; exact e27
          refine pm_aload_n hC 0 (by decide) dX3_readProduct_38 rfl ?_
          refine pm_iload_n hC 1 dX3_readProduct_39 rfl ?_
          have q50 : 63 ≤ V39 72 1 ∧ V39 72 1 ≤ 63 := by (have e : V39 72 1 = 63 := e45); rw [e]; exact ⟨by decide, by decide⟩
          refine pm_callV (ci := 3) (as := [(0, 6)]) (st := []) hC 72 fC_X3_readFactor_63_d6 lm_X3_90 li_X3_readFactor (by decide) (by decide) rfl rfl rfl (by decide) rfl rfl (Nat.le_of_ble_eq_true rfl) ⟨Nat.le_refl _, Or.inl rfl⟩ dX3_readProduct_40 ⟨rfl, hV41, q50⟩ (fun r47 V48 hp49 => ?_)
          obtain ⟨y51, rfl, b52, hV53, hF54, hE55⟩ := hp49
          replace hb21 := hb21.trans (pf_call_eq hE55)
          change pm_J X 43 [(0, (3, 72)), (1, (0, 6)), (2, (0, x13))] [(0, y51)] 118 V48
          have hF56 := pm_fr.tr hF44 hF54 (by decide)
          have e57 : V48 72 1 = 63 := by rw [hF54 72 (by decide)]; exact e45
          have e58 : V48 72 0 = 3 := by rw [hF54 72 (by decide)]; exact e46
          refine pm_if_ne (tgt := 48) hC ⟨by omega, by omega⟩ dX3_readProduct_43 (by decide) (fun c59 => ?_) (fun c59 => ?_)
          · skip
            replace hb21 := hb21.trans (if_pos c59)
            refine pm_aload_n hC 0 (by decide) dX3_readProduct_48 rfl ?_
            refine pm_getf (v := 63) hC 72 fl_X3_15 rfl rfl (by decide) rfl e57 dX3_readProduct_49 ?_
            refine pm_sipush (v := 20042) hC dX3_readProduct_52 (by decide) ?_
            refine pm_callV (ci := 2) (as := [(0, 20042)]) (st := []) hC 63 (fC_X2_emit_63 20042 ⟨by decide, by decide⟩) lm_X3_57 li_X2_emit (by decide) (by decide) rfl rfl rfl (by decide) rfl rfl (Nat.le_of_ble_eq_true rfl) ⟨Nat.le_refl _, Or.inl rfl⟩ dX3_readProduct_55 ⟨rfl, hV53⟩ (fun r60 V61 hp62 => ?_)
            obtain ⟨rfl, hV63, hF64, hE65⟩ := hp62
            replace hb21 := hb21.trans (pf_call_eq hE65)
            change pm_J X 58 [(0, (3, 72)), (1, (0, 6)), (2, (0, x13))] [] 118 V61
            have hF66 := pm_fr.tr hF56 hF64 (by decide)
            have e67 : V61 72 1 = 63 := by rw [hF64 72 (by decide)]; exact e57
            have e68 : V61 72 0 = 3 := by rw [hF64 72 (by decide)]; exact e58
            obtain ⟨x69, ei70⟩ : ∃ y : Int, x13 + 1 = y := ⟨_, rfl⟩
            replace hb21 := hb21.trans (pf_let_eq ei70)
            refine pm_iinc (y := x69) (lv' := [(2, (0, x69)), (0, (3, 72)), (1, (0, 6))]) hC 2 dX3_readProduct_58 (by decide) rfl ei70 rfl ?_
            refine pm_goto (tgt := 12) hC dX3_readProduct_61 (by decide) ?_
            refine pm_lvsub [1, 2, 0] (lv' := [(0, (3, 72)), (1, (0, 6)), (2, (0, x69))]) rfl ?_
            exact ih25 _ (by omega) x69 V61 ⟨by omega, by omega⟩ hV63 hF66 e67 (hT.trans (pf_val_inl hb21)) rfl
          · skip
            replace hb21 := hb21.trans (if_neg (fun q => q c59))
            refine pm_iconst (v := 0) hC dX3_readProduct_46 ?_
            have hT := hT.trans (pf_val_inr hb21)
            exact pm_iret hC hR (pm_narZ (by omega)) ⟨0, rfl, ⟨by omega, by omega⟩, hV53, hF56, hT⟩ dX3_readProduct_47
    refine pm_lvsub [1, 2, 0] (lv' := [(0, (3, 72)), (1, (0, 6)), (2, (0, 0))]) rfl ?_
    exact L22 _ 0 V2 ⟨by decide, by decide⟩ hV7 hF10 e11 hT rfl
  · skip
    replace hT := hT.trans (if_neg (fun q => q c12))
    refine pm_iconst (v := 0) hC dX3_readProduct_8 ?_
    exact pm_iret hC hR (pm_narZ (by omega)) ⟨0, rfl, ⟨by omega, by omega⟩, hV7, hF10, hT⟩ dX3_readProduct_9
set_option maxHeartbeats 4000000 in
set_option maxRecDepth 100000 in
theorem fC_X3_readSum_63_d6  : pm_K 11 yX3_readSum cX3_readSum 4 (some .boolean) (fun av V => av = [(3, 72), (0, 6)] ∧ pm_ok 0 90 V ∧ (63 ≤ V 72 1 ∧ V 72 1 ≤ 63)) (fun _ V r V' => ∃ y, r = some (0, y) ∧ (0 ≤ y ∧ y ≤ 1) ∧ pm_ok 0 90 V' ∧ pm_fr [3, 63, 67] V V' ∧ F_X3_readSum 63 (pf_fac 63 2) V = (y, V')) := by
  refine pm_MT.of (by decide) ⟨Nat.le_refl _, by decide⟩ (fun av V h => by rw [h.1]; exact (by decide : pm_words [(3, 0), (0, 0)] ≤ 4)) ?_
  rintro X av V0 hC - hR ⟨rfl, hV0, hq0⟩
  change pm_J X 0 [(0, (3, 72)), (1, (0, 6))] [] 118 V0
  have hT := F_X3_readSum_eq 63 (pf_fac 63 2) V0
  obtain ⟨z0, ez0⟩ : ∃ z, V0 72 1 = z := ⟨_, rfl⟩
  rw [ez0] at hq0
  have en0 : V0 72 1 = 63 := by rw [ez0]; omega
  refine pm_aload_n hC 0 (by decide) dX3_readSum_0 rfl ?_
  refine pm_iload_n hC 1 dX3_readSum_1 rfl ?_
  have q4 : 63 ≤ V0 72 1 ∧ V0 72 1 ≤ 63 := by (have e : V0 72 1 = 63 := en0); rw [e]; exact ⟨by decide, by decide⟩
  refine pm_callV (ci := 3) (as := [(0, 6)]) (st := []) hC 72 fC_X3_readProduct_63_d6 lm_X3_87 li_X3_readProduct (by decide) (by decide) rfl rfl rfl (by decide) rfl rfl (Nat.le_of_ble_eq_true rfl) ⟨Nat.le_refl _, Or.inl rfl⟩ dX3_readSum_2 ⟨rfl, hV0, q4⟩ (fun r1 V2 hp3 => ?_)
  obtain ⟨y5, rfl, b6, hV7, hF8, hE9⟩ := hp3
  replace hT := hT.trans (pf_call_eq hE9)
  change pm_J X 5 [(0, (3, 72)), (1, (0, 6))] [(0, y5)] 118 V2
  have hF10 := pm_fr.tr (pm_fr.rf (ws := [3, 63, 67]) (V := V0)) hF8 (by decide)
  have e11 : V2 72 1 = 63 := by rw [hF8 72 (by decide)]; exact en0
  refine pm_if_ne (tgt := 10) hC ⟨by omega, by omega⟩ dX3_readSum_5 (by decide) (fun c12 => ?_) (fun c12 => ?_)
  · skip
    replace hT := hT.trans (if_pos c12)
    refine pm_iconst (v := 0) hC dX3_readSum_10 ?_
    refine pm_istore_n (lv' := [(2, (0, 0)), (0, (3, 72)), (1, (0, 6))]) hC dX3_readSum_11 (by decide) rfl ?_
    obtain ⟨B19, hB20, hT⟩ := pf_loop hT
    have L22 : ∀ (N24 : Nat) (x13 : Int) (V15 : pm_M), (0 ≤ x13 ∧ x13 ≤ 500) → pm_ok 0 90 V15 → pm_fr [3, 63, 67] V0 V15 → V15 72 1 = 63 → F_X3_readSum 63 (pf_fac 63 2) V0 = pf_val ((0 : Int), V0) B19 (x13, V15) → (Int.toNat (500 - x13)) = N24 → pm_J X 12 [(0, (3, 72)), (1, (0, 6)), (2, (0, x13))] [] 118 V15 := by
      intro N24
      induction N24 using Nat.strongRecOn with
      | _ N24 ih25 =>
      intro x13 V15 b14 hV16 hF17 e18 hT hm23
      have hb21 := congrFun hB20 (x13, V15)
      refine pm_iload_n hC 2 dX3_readSum_12 rfl ?_
      refine pm_sipush (v := 500) hC dX3_readSum_13 (by decide) ?_
      refine pm_icmp_ge (tgt := 87) hC ⟨by omega, by omega⟩ ⟨by decide, by decide⟩ dX3_readSum_16 (by decide) (fun c26 => ?_) (fun c26 => ?_)
      · skip
        replace hb21 := hb21.trans (if_pos c26)
        refine pm_iconst (v := 1) hC dX3_readSum_87 ?_
        have hT := hT.trans (pf_val_inr hb21)
        exact pm_iret hC hR (pm_narZ (by omega)) ⟨1, rfl, ⟨by omega, by omega⟩, hV16, hF17, hT⟩ dX3_readSum_88
      · skip
        replace hb21 := hb21.trans (if_neg (Int.not_le.mpr c26))
        refine pm_aload_n hC 0 (by decide) dX3_readSum_19 rfl ?_
        have e27 : V15 72 0 = 3 := hV16.one 72 0 (by decide) (by decide) rfl
        refine pm_getf (v := 3) hC 72 fl_X3_9 rfl rfl (by decide) rfl e27 dX3_readSum_20 ?_
        refine pm_bipush (v := 43) hC dX3_readSum_23 (by decide) ?_
        obtain ⟨y28, e29⟩ : ∃ y, V15 3 3 = y := ⟨_, rfl⟩
        have b30 := hV16.get 3 3 (lo := (-9223372036854775808)) (hi := 9223372036854775807) (by decide) (by decide) rfl
        rw [e29] at b30
        replace hb21 := hb21.trans (pf_let_eq e29)
        refine pm_callV (ci := 9) (as := [(0, 43)]) (st := []) hC 3 (fC_X9_isSign 43 ⟨by decide, by decide⟩) lm_X3_67 li_X9_isSign (by decide) (by decide) rfl rfl rfl (by decide) rfl rfl (Nat.le_of_ble_eq_true rfl) ⟨Nat.le_refl _, Or.inl rfl⟩ dX3_readSum_25 ⟨rfl, hV16⟩ (fun r31 V32 hp33 => ?_)
        obtain ⟨y34, rfl, b35, rfl, hE36⟩ := hp33
        replace hb21 := hb21.trans (pf_call_eq hE36)
        change pm_J X 28 [(0, (3, 72)), (1, (0, 6)), (2, (0, x13))] [(0, y34)] 118 V15
        refine pm_if_ne (tgt := 43) hC ⟨by omega, by omega⟩ dX3_readSum_28 (by decide) (fun c37 => ?_) (fun c37 => ?_)
        · skip
          replace hb21 := hb21.trans (if_pos c37)
          refine pm_aload_n hC 0 (by decide) dX3_readSum_43 rfl ?_
          refine pm_getf (v := 3) hC 72 fl_X3_9 rfl rfl (by decide) rfl e27 dX3_readSum_44 ?_
          refine pm_getf (v := y28) hC 3 fl_X3_53 rfl rfl (by decide) rfl e29 dX3_readSum_47 ?_
          refine pm_l2i hC dX3_readSum_50 ?_
          refine pm_istore_n (lv' := [(3, (0, y28)), (0, (3, 72)), (1, (0, 6)), (2, (0, x13))]) hC dX3_readSum_51 (by decide) rfl ?_
          refine pm_aload_n hC 1 (by decide) dX3_readSum_52 rfl ?_
          refine pm_getf (v := 3) hC 72 fl_X3_9 rfl rfl (by decide) rfl e27 dX3_readSum_53 ?_
          refine pm_callV (ci := 9) (as := []) (st := []) hC 3 fC_X9_step lm_X3_43 li_X9_step (by decide) (by decide) rfl rfl rfl (by decide) rfl rfl (Nat.le_of_ble_eq_true rfl) ⟨Nat.le_refl _, Or.inl rfl⟩ dX3_readSum_56 ⟨rfl, hV16⟩ (fun r38 V39 hp40 => ?_)
          obtain ⟨rfl, hV41, hF42, hE43⟩ := hp40
          replace hb21 := hb21.trans (pf_call_eq hE43)
          change pm_J X 59 [(3, (0, y28)), (0, (3, 72)), (1, (0, 6)), (2, (0, x13))] [] 118 V39
          have hF44 := pm_fr.tr hF17 hF42 (by decide)
          have e45 : V39 72 1 = 63 := by rw [hF42 72 (by decide)]; exact e18
          have e46 : V39 72 0 = 3 := by rw [hF42 72 (by decide)]; exact e27
          refine pm_aload_n hC 1 (by decide) dX3_readSum_59 rfl ?_
          refine pm_iload_n hC 2 dX3_readSum_60 rfl ?_
          have q50 : 63 ≤ V39 72 1 ∧ V39 72 1 ≤ 63 := by (have e : V39 72 1 = 63 := e45); rw [e]; exact ⟨by decide, by decide⟩
          refine pm_callV (ci := 3) (as := [(0, 6)]) (st := []) hC 72 fC_X3_readProduct_63_d6 lm_X3_87 li_X3_readProduct (by decide) (by decide) rfl rfl rfl (by decide) rfl rfl (Nat.le_of_ble_eq_true rfl) ⟨Nat.le_refl _, Or.inl rfl⟩ dX3_readSum_61 ⟨rfl, hV41, q50⟩ (fun r47 V48 hp49 => ?_)
          obtain ⟨y51, rfl, b52, hV53, hF54, hE55⟩ := hp49
          replace hb21 := hb21.trans (pf_call_eq hE55)
          change pm_J X 64 [(3, (0, y28)), (0, (3, 72)), (1, (0, 6)), (2, (0, x13))] [(0, y51)] 118 V48
          have hF56 := pm_fr.tr hF44 hF54 (by decide)
          have e57 : V48 72 1 = 63 := by rw [hF54 72 (by decide)]; exact e45
          have e58 : V48 72 0 = 3 := by rw [hF54 72 (by decide)]; exact e46
          refine pm_if_ne (tgt := 69) hC ⟨by omega, by omega⟩ dX3_readSum_64 (by decide) (fun c59 => ?_) (fun c59 => ?_)
          · skip
            replace hb21 := hb21.trans (if_pos c59)
            refine pm_aload_n hC 1 (by decide) dX3_readSum_69 rfl ?_
            refine pm_getf (v := 63) hC 72 fl_X3_15 rfl rfl (by decide) rfl e57 dX3_readSum_70 ?_
            refine pm_sipush (v := 20000) hC dX3_readSum_73 (by decide) ?_
            refine pm_iload_n hC 0 dX3_readSum_76 rfl ?_
            refine pm_iadd hC dX3_readSum_77 ?_
            refine pm_callV (ci := 2) (as := [(0, (20000 + y28))]) (st := []) hC 63 (fC_X2_emit_63 (20000 + y28) ⟨by omega, by omega⟩) lm_X3_57 li_X2_emit (by decide) (by decide) rfl rfl rfl (by decide) rfl rfl (Nat.le_of_ble_eq_true rfl) ⟨Nat.le_refl _, Or.inl rfl⟩ dX3_readSum_78 ⟨rfl, hV53⟩ (fun r60 V61 hp62 => ?_)
            obtain ⟨rfl, hV63, hF64, hE65⟩ := hp62
            replace hb21 := hb21.trans (pf_call_eq hE65)
            change pm_J X 81 [(3, (0, y28)), (0, (3, 72)), (1, (0, 6)), (2, (0, x13))] [] 118 V61
            have hF66 := pm_fr.tr hF56 hF64 (by decide)
            have e67 : V61 72 1 = 63 := by rw [hF64 72 (by decide)]; exact e57
            have e68 : V61 72 0 = 3 := by rw [hF64 72 (by decide)]; exact e58
            obtain ⟨x69, ei70⟩ : ∃ y : Int, x13 + 1 = y := ⟨_, rfl⟩
            replace hb21 := hb21.trans (pf_let_eq ei70)
            refine pm_iinc (y := x69) (lv' := [(2, (0, x69)), (3, (0, y28)), (0, (3, 72)), (1, (0, 6))]) hC 3 dX3_readSum_81 (by decide) rfl ei70 rfl ?_
            refine pm_goto (tgt := 12) hC dX3_readSum_84 (by decide) ?_
            refine pm_lvsub [2, 3, 0] (lv' := [(0, (3, 72)), (1, (0, 6)), (2, (0, x69))]) rfl ?_
            exact ih25 _ (by omega) x69 V61 ⟨by omega, by omega⟩ hV63 hF66 e67 (hT.trans (pf_val_inl hb21)) rfl
          · skip
            replace hb21 := hb21.trans (if_neg (fun q => q c59))
            refine pm_iconst (v := 0) hC dX3_readSum_67 ?_
            have hT := hT.trans (pf_val_inr hb21)
            exact pm_iret hC hR (pm_narZ (by omega)) ⟨0, rfl, ⟨by omega, by omega⟩, hV53, hF56, hT⟩ dX3_readSum_68
        · skip
          replace hb21 := hb21.trans (if_neg (fun q => q c37))
          refine pm_aload_n hC 0 (by decide) dX3_readSum_31 rfl ?_
          refine pm_getf (v := 3) hC 72 fl_X3_9 rfl rfl (by decide) rfl e27 dX3_readSum_32 ?_
          refine pm_bipush (v := 45) hC dX3_readSum_35 (by decide) ?_
          refine pm_callV (ci := 9) (as := [(0, 45)]) (st := []) hC 3 (fC_X9_isSign 45 ⟨by decide, by decide⟩) lm_X3_67 li_X9_isSign (by decide) (by decide) rfl rfl rfl (by decide) rfl rfl (Nat.le_of_ble_eq_true rfl) ⟨Nat.le_refl _, Or.inl rfl⟩ dX3_readSum_37 ⟨rfl, hV16⟩ (fun r71 V72 hp73 => ?_)
          obtain ⟨y74, rfl, b75, rfl, hE76⟩ := hp73
          replace hb21 := hb21.trans (pf_call_eq hE76)
          change pm_J X 40 [(0, (3, 72)), (1, (0, 6)), (2, (0, x13))] [(0, y74)] 118 V15
          refine pm_if_eq (tgt := 87) hC ⟨by omega, by omega⟩ dX3_readSum_40 (by decide) (fun c77 => ?_) (fun c77 => ?_)
          · skip
            replace hb21 := hb21.trans (if_pos c77)
            refine pm_iconst (v := 1) hC dX3_readSum_87 ?_
            have hT := hT.trans (pf_val_inr hb21)
            exact pm_iret hC hR (pm_narZ (by omega)) ⟨1, rfl, ⟨by omega, by omega⟩, hV16, hF17, hT⟩ dX3_readSum_88
          · skip
            replace hb21 := hb21.trans (if_neg c77)
            refine pm_aload_n hC 0 (by decide) dX3_readSum_43 rfl ?_
            refine pm_getf (v := 3) hC 72 fl_X3_9 rfl rfl (by decide) rfl e27 dX3_readSum_44 ?_
            refine pm_getf (v := y28) hC 3 fl_X3_53 rfl rfl (by decide) rfl e29 dX3_readSum_47 ?_
            refine pm_l2i hC dX3_readSum_50 ?_
            refine pm_istore_n (lv' := [(3, (0, y28)), (0, (3, 72)), (1, (0, 6)), (2, (0, x13))]) hC dX3_readSum_51 (by decide) rfl ?_
            refine pm_aload_n hC 1 (by decide) dX3_readSum_52 rfl ?_
            refine pm_getf (v := 3) hC 72 fl_X3_9 rfl rfl (by decide) rfl e27 dX3_readSum_53 ?_
            refine pm_callV (ci := 9) (as := []) (st := []) hC 3 fC_X9_step lm_X3_43 li_X9_step (by decide) (by decide) rfl rfl rfl (by decide) rfl rfl (Nat.le_of_ble_eq_true rfl) ⟨Nat.le_refl _, Or.inl rfl⟩ dX3_readSum_56 ⟨rfl, hV16⟩ (fun r78 V79 hp80 => ?_)
            obtain ⟨rfl, hV81, hF82, hE83⟩ := hp80
            replace hb21 := hb21.trans (pf_call_eq hE83)
            change pm_J X 59 [(3, (0, y28)), (0, (3, 72)), (1, (0, 6)), (2, (0, x13))] [] 118 V79
            have hF84 := pm_fr.tr hF17 hF82 (by decide)
            have e85 : V79 72 1 = 63 := by rw [hF82 72 (by decide)]; exact e18
            have e86 : V79 72 0 = 3 := by rw [hF82 72 (by decide)]; exact e27
            refine pm_aload_n hC 1 (by decide) dX3_readSum_59 rfl ?_
            refine pm_iload_n hC 2 dX3_readSum_60 rfl ?_
            have q90 : 63 ≤ V79 72 1 ∧ V79 72 1 ≤ 63 := by (have e : V79 72 1 = 63 := e85); rw [e]; exact ⟨by decide, by decide⟩
            refine pm_callV (ci := 3) (as := [(0, 6)]) (st := []) hC 72 fC_X3_readProduct_63_d6 lm_X3_87 li_X3_readProduct (by decide) (by decide) rfl rfl rfl (by decide) rfl rfl (Nat.le_of_ble_eq_true rfl) ⟨Nat.le_refl _, Or.inl rfl⟩ dX3_readSum_61 ⟨rfl, hV81, q90⟩ (fun r87 V88 hp89 => ?_)
            obtain ⟨y91, rfl, b92, hV93, hF94, hE95⟩ := hp89
            replace hb21 := hb21.trans (pf_call_eq hE95)
            change pm_J X 64 [(3, (0, y28)), (0, (3, 72)), (1, (0, 6)), (2, (0, x13))] [(0, y91)] 118 V88
            have hF96 := pm_fr.tr hF84 hF94 (by decide)
            have e97 : V88 72 1 = 63 := by rw [hF94 72 (by decide)]; exact e85
            have e98 : V88 72 0 = 3 := by rw [hF94 72 (by decide)]; exact e86
            refine pm_if_ne (tgt := 69) hC ⟨by omega, by omega⟩ dX3_readSum_64 (by decide) (fun c99 => ?_) (fun c99 => ?_)
            · skip
              replace hb21 := hb21.trans (if_pos c99)
              refine pm_aload_n hC 1 (by decide) dX3_readSum_69 rfl ?_
              refine pm_getf (v := 63) hC 72 fl_X3_15 rfl rfl (by decide) rfl e97 dX3_readSum_70 ?_
              refine pm_sipush (v := 20000) hC dX3_readSum_73 (by decide) ?_
              refine pm_iload_n hC 0 dX3_readSum_76 rfl ?_
              refine pm_iadd hC dX3_readSum_77 ?_
              refine pm_callV (ci := 2) (as := [(0, (20000 + y28))]) (st := []) hC 63 (fC_X2_emit_63 (20000 + y28) ⟨by omega, by omega⟩) lm_X3_57 li_X2_emit (by decide) (by decide) rfl rfl rfl (by decide) rfl rfl (Nat.le_of_ble_eq_true rfl) ⟨Nat.le_refl _, Or.inl rfl⟩ dX3_readSum_78 ⟨rfl, hV93⟩ (fun r100 V101 hp102 => ?_)
              obtain ⟨rfl, hV103, hF104, hE105⟩ := hp102
              replace hb21 := hb21.trans (pf_call_eq hE105)
              change pm_J X 81 [(3, (0, y28)), (0, (3, 72)), (1, (0, 6)), (2, (0, x13))] [] 118 V101
              have hF106 := pm_fr.tr hF96 hF104 (by decide)
              have e107 : V101 72 1 = 63 := by rw [hF104 72 (by decide)]; exact e97
              have e108 : V101 72 0 = 3 := by rw [hF104 72 (by decide)]; exact e98
              obtain ⟨x109, ei110⟩ : ∃ y : Int, x13 + 1 = y := ⟨_, rfl⟩
              replace hb21 := hb21.trans (pf_let_eq ei110)
              refine pm_iinc (y := x109) (lv' := [(2, (0, x109)), (3, (0, y28)), (0, (3, 72)), (1, (0, 6))]) hC 3 dX3_readSum_81 (by decide) rfl ei110 rfl ?_
              refine pm_goto (tgt := 12) hC dX3_readSum_84 (by decide) ?_
              refine pm_lvsub [2, 3, 0] (lv' := [(0, (3, 72)), (1, (0, 6)), (2, (0, x109))]) rfl ?_
              exact ih25 _ (by omega) x109 V101 ⟨by omega, by omega⟩ hV103 hF106 e107 (hT.trans (pf_val_inl hb21)) rfl
            · skip
              replace hb21 := hb21.trans (if_neg (fun q => q c99))
              refine pm_iconst (v := 0) hC dX3_readSum_67 ?_
              have hT := hT.trans (pf_val_inr hb21)
              exact pm_iret hC hR (pm_narZ (by omega)) ⟨0, rfl, ⟨by omega, by omega⟩, hV93, hF96, hT⟩ dX3_readSum_68
    refine pm_lvsub [1, 2, 0] (lv' := [(0, (3, 72)), (1, (0, 6)), (2, (0, 0))]) rfl ?_
    exact L22 _ 0 V2 ⟨by decide, by decide⟩ hV7 hF10 e11 hT rfl
  · skip
    replace hT := hT.trans (if_neg (fun q => q c12))
    refine pm_iconst (v := 0) hC dX3_readSum_8 ?_
    exact pm_iret hC hR (pm_narZ (by omega)) ⟨0, rfl, ⟨by omega, by omega⟩, hV7, hF10, hT⟩ dX3_readSum_9
set_option maxHeartbeats 4000000 in
set_option maxRecDepth 100000 in
theorem fC_X3_readFactor_63_d5  : pm_K 12 yX3_readFactor cX3_readFactor 3 (some .boolean) (fun av V => av = [(3, 72), (0, 5)] ∧ pm_ok 0 90 V ∧ (63 ≤ V 72 1 ∧ V 72 1 ≤ 63)) (fun _ V r V' => ∃ y, r = some (0, y) ∧ (0 ≤ y ∧ y ≤ 1) ∧ pm_ok 0 90 V' ∧ pm_fr [3, 63, 67] V V' ∧ pf_fac 63 3 V = (y, V')) := by
  refine pm_MT.of (by decide) ⟨Nat.le_refl _, by decide⟩ (fun av V h => by rw [h.1]; exact (by decide : pm_words [(3, 0), (0, 0)] ≤ 3)) ?_
  rintro X av V0 hC - hR ⟨rfl, hV0, hq0⟩
  change pm_J X 0 [(0, (3, 72)), (1, (0, 5))] [] 118 V0
  have hT := F_X3_readFactor_eq 63 (F_X3_readSum 63 (pf_fac 63 2)) V0
  obtain ⟨z0, ez0⟩ : ∃ z, V0 72 1 = z := ⟨_, rfl⟩
  rw [ez0] at hq0
  have en0 : V0 72 1 = 63 := by rw [ez0]; omega
  refine pm_aload_n hC 0 (by decide) dX3_readFactor_0 rfl ?_
  have q4 : 63 ≤ V0 72 1 ∧ V0 72 1 ≤ 63 := by (have e : V0 72 1 = 63 := en0); rw [e]; exact ⟨by decide, by decide⟩
  refine pm_callV (ci := 3) (as := []) (st := []) hC 72 fC_X3_codeOfToken_63 lm_X3_93 li_X3_codeOfToken (by decide) (by decide) rfl rfl rfl (by decide) rfl rfl (Nat.le_of_ble_eq_true rfl) ⟨Nat.le_refl _, Or.inl rfl⟩ dX3_readFactor_1 ⟨rfl, hV0, q4⟩ (fun r1 V2 hp3 => ?_)
  obtain ⟨y5, rfl, b6, rfl, hE7⟩ := hp3
  replace hT := hT.trans (pf_call_eq hE7)
  change pm_J X 4 [(0, (3, 72)), (1, (0, 5))] [(0, y5)] 118 V0
  refine pm_istore_n (lv' := [(2, (0, y5)), (0, (3, 72)), (1, (0, 5))]) hC dX3_readFactor_4 (by decide) rfl ?_
  refine pm_iload_n hC 0 dX3_readFactor_5 rfl ?_
  refine pm_iconst (v := (-1)) hC dX3_readFactor_6 ?_
  refine pm_icmp_eq (tgt := 27) hC ⟨by omega, by omega⟩ ⟨by decide, by decide⟩ dX3_readFactor_7 (by decide) (fun c8 => ?_) (fun c8 => ?_)
  · skip
    replace hT := hT.trans (if_pos c8)
    refine pm_iload_n hC 2 dX3_readFactor_27 rfl ?_
    refine pm_bipush (v := 8) hC dX3_readFactor_28 (by decide) ?_
    refine pm_icmp_ge (tgt := 45) hC ⟨by decide, by decide⟩ ⟨by decide, by decide⟩ dX3_readFactor_30 (by decide) (fun c9 => ?_) (fun c9 => ?_)
    · skip
      exfalso; omega
    · skip
      refine pm_aload_n hC 1 (by decide) dX3_readFactor_33 rfl ?_
      have e10 : V0 72 0 = 3 := hV0.one 72 0 (by decide) (by decide) rfl
      refine pm_getf (v := 3) hC 72 fl_X3_9 rfl rfl (by decide) rfl e10 dX3_readFactor_34 ?_
      refine pm_bipush (v := 40) hC dX3_readFactor_37 (by decide) ?_
      obtain ⟨y11, e12⟩ : ∃ y, V0 3 3 = y := ⟨_, rfl⟩
      have b13 := hV0.get 3 3 (lo := (-9223372036854775808)) (hi := 9223372036854775807) (by decide) (by decide) rfl
      rw [e12] at b13
      replace hT := hT.trans (pf_let_eq e12)
      refine pm_callV (ci := 9) (as := [(0, 40)]) (st := []) hC 3 (fC_X9_isSign 40 ⟨by decide, by decide⟩) lm_X3_67 li_X9_isSign (by decide) (by decide) rfl rfl rfl (by decide) rfl rfl (Nat.le_of_ble_eq_true rfl) ⟨Nat.le_refl _, Or.inl rfl⟩ dX3_readFactor_39 ⟨rfl, hV0⟩ (fun r14 V15 hp16 => ?_)
      obtain ⟨y17, rfl, b18, rfl, hE19⟩ := hp16
      replace hT := hT.trans (pf_call_eq hE19)
      change pm_J X 42 [(2, (0, y5)), (0, (3, 72)), (1, (0, 5))] [(0, y17)] 118 V0
      refine pm_if_ne (tgt := 47) hC ⟨by omega, by omega⟩ dX3_readFactor_42 (by decide) (fun c20 => ?_) (fun c20 => ?_)
      · skip
        replace hT := hT.trans (if_pos c20)
        refine pm_aload_n hC 1 (by decide) dX3_readFactor_47 rfl ?_
        refine pm_getf (v := 3) hC 72 fl_X3_9 rfl rfl (by decide) rfl e10 dX3_readFactor_48 ?_
        refine pm_callV (ci := 9) (as := []) (st := []) hC 3 fC_X9_step lm_X3_43 li_X9_step (by decide) (by decide) rfl rfl rfl (by decide) rfl rfl (Nat.le_of_ble_eq_true rfl) ⟨Nat.le_refl _, Or.inl rfl⟩ dX3_readFactor_51 ⟨rfl, hV0⟩ (fun r21 V22 hp23 => ?_)
        obtain ⟨rfl, hV24, hF25, hE26⟩ := hp23
        replace hT := hT.trans (pf_call_eq hE26)
        change pm_J X 54 [(2, (0, y5)), (0, (3, 72)), (1, (0, 5))] [] 118 V22
        have hF27 := pm_fr.tr (pm_fr.rf (ws := [3, 63, 67]) (V := V0)) hF25 (by decide)
        have e28 : V22 72 1 = 63 := by rw [hF25 72 (by decide)]; exact en0
        have e29 : V22 72 0 = 3 := by rw [hF25 72 (by decide)]; exact e10
        refine pm_aload_n hC 1 (by decide) dX3_readFactor_54 rfl ?_
        refine pm_iload_n hC 2 dX3_readFactor_55 rfl ?_
        refine pm_iconst (v := 1) hC dX3_readFactor_56 ?_
        refine pm_iadd hC dX3_readFactor_57 ?_
        change pm_J X 58 [(2, (0, y5)), (0, (3, 72)), (1, (0, 5))] [(0, 6), (3, 72)] 118 V22
        have q33 : 63 ≤ V22 72 1 ∧ V22 72 1 ≤ 63 := by (have e : V22 72 1 = 63 := e28); rw [e]; exact ⟨by decide, by decide⟩
        refine pm_callV (ci := 3) (as := [(0, 6)]) (st := []) hC 72 fC_X3_readSum_63_d6 lm_X3_46 li_X3_readSum (by decide) (by decide) rfl rfl rfl (by decide) rfl rfl (Nat.le_of_ble_eq_true rfl) ⟨Nat.le_refl _, Or.inl rfl⟩ dX3_readFactor_58 ⟨rfl, hV24, q33⟩ (fun r30 V31 hp32 => ?_)
        obtain ⟨y34, rfl, b35, hV36, hF37, hE38⟩ := hp32
        replace hT := hT.trans (pf_call_eq hE38)
        change pm_J X 61 [(2, (0, y5)), (0, (3, 72)), (1, (0, 5))] [(0, y34)] 118 V31
        have hF39 := pm_fr.tr hF27 hF37 (by decide)
        have e40 : V31 72 1 = 63 := by rw [hF37 72 (by decide)]; exact e28
        have e41 : V31 72 0 = 3 := by rw [hF37 72 (by decide)]; exact e29
        refine pm_if_eq (tgt := 76) hC ⟨by omega, by omega⟩ dX3_readFactor_61 (by decide) (fun c42 => ?_) (fun c42 => ?_)
        · skip
          replace hT := hT.trans (if_pos c42)
          refine pm_iconst (v := 0) hC dX3_readFactor_76 ?_
          exact pm_iret hC hR (pm_narZ (by omega)) ⟨0, rfl, ⟨by omega, by omega⟩, hV36, hF39, hT⟩ dX3_readFactor_77
        · skip
          replace hT := hT.trans (if_neg c42)
          refine pm_aload_n hC 1 (by decide) dX3_readFactor_64 rfl ?_
          refine pm_getf (v := 3) hC 72 fl_X3_9 rfl rfl (by decide) rfl e41 dX3_readFactor_65 ?_
          refine pm_bipush (v := 41) hC dX3_readFactor_68 (by decide) ?_
          obtain ⟨y43, e44⟩ : ∃ y, V31 3 3 = y := ⟨_, rfl⟩
          have b45 := hV36.get 3 3 (lo := (-9223372036854775808)) (hi := 9223372036854775807) (by decide) (by decide) rfl
          rw [e44] at b45
          replace hT := hT.trans (pf_let_eq e44)
          refine pm_callV (ci := 9) (as := [(0, 41)]) (st := []) hC 3 (fC_X9_isSign 41 ⟨by decide, by decide⟩) lm_X3_67 li_X9_isSign (by decide) (by decide) rfl rfl rfl (by decide) rfl rfl (Nat.le_of_ble_eq_true rfl) ⟨Nat.le_refl _, Or.inl rfl⟩ dX3_readFactor_70 ⟨rfl, hV36⟩ (fun r46 V47 hp48 => ?_)
          obtain ⟨y49, rfl, b50, rfl, hE51⟩ := hp48
          replace hT := hT.trans (pf_call_eq hE51)
          change pm_J X 73 [(2, (0, y5)), (0, (3, 72)), (1, (0, 5))] [(0, y49)] 118 V31
          refine pm_if_ne (tgt := 78) hC ⟨by omega, by omega⟩ dX3_readFactor_73 (by decide) (fun c52 => ?_) (fun c52 => ?_)
          · skip
            replace hT := hT.trans (if_pos c52)
            refine pm_aload_n hC 1 (by decide) dX3_readFactor_78 rfl ?_
            refine pm_getf (v := 3) hC 72 fl_X3_9 rfl rfl (by decide) rfl e41 dX3_readFactor_79 ?_
            refine pm_callV (ci := 9) (as := []) (st := []) hC 3 fC_X9_step lm_X3_43 li_X9_step (by decide) (by decide) rfl rfl rfl (by decide) rfl rfl (Nat.le_of_ble_eq_true rfl) ⟨Nat.le_refl _, Or.inl rfl⟩ dX3_readFactor_82 ⟨rfl, hV36⟩ (fun r53 V54 hp55 => ?_)
            obtain ⟨rfl, hV56, hF57, hE58⟩ := hp55
            replace hT := hT.trans (pf_call_eq hE58)
            change pm_J X 85 [(2, (0, y5)), (0, (3, 72)), (1, (0, 5))] [] 118 V54
            have hF59 := pm_fr.tr hF39 hF57 (by decide)
            have e60 : V54 72 1 = 63 := by rw [hF57 72 (by decide)]; exact e40
            have e61 : V54 72 0 = 3 := by rw [hF57 72 (by decide)]; exact e41
            refine pm_iconst (v := 1) hC dX3_readFactor_85 ?_
            exact pm_iret hC hR (pm_narZ (by omega)) ⟨1, rfl, ⟨by omega, by omega⟩, hV56, hF59, hT⟩ dX3_readFactor_86
          · skip
            replace hT := hT.trans (if_neg (fun q => q c52))
            refine pm_iconst (v := 0) hC dX3_readFactor_76 ?_
            exact pm_iret hC hR (pm_narZ (by omega)) ⟨0, rfl, ⟨by omega, by omega⟩, hV36, hF39, hT⟩ dX3_readFactor_77
      · skip
        replace hT := hT.trans (if_neg (fun q => q c20))
        refine pm_iconst (v := 0) hC dX3_readFactor_45 ?_
        exact pm_iret hC hR (pm_narZ (by omega)) ⟨0, rfl, ⟨by omega, by omega⟩, hV0, (pm_fr.rf (ws := [3, 63, 67]) (V := V0)), hT⟩ dX3_readFactor_46
  · skip
    replace hT := hT.trans (if_neg c8)
    refine pm_aload_n hC 1 (by decide) dX3_readFactor_10 rfl ?_
    refine pm_getf (v := 63) hC 72 fl_X3_15 rfl rfl (by decide) rfl en0 dX3_readFactor_11 ?_
    refine pm_iload_n hC 0 dX3_readFactor_14 rfl ?_
    refine pm_callV (ci := 2) (as := [(0, y5)]) (st := []) hC 63 (fC_X2_emit_63 y5 ⟨by omega, by omega⟩) lm_X3_57 li_X2_emit (by decide) (by decide) rfl rfl rfl (by decide) rfl rfl (Nat.le_of_ble_eq_true rfl) ⟨Nat.le_refl _, Or.inl rfl⟩ dX3_readFactor_15 ⟨rfl, hV0⟩ (fun r62 V63 hp64 => ?_)
    obtain ⟨rfl, hV65, hF66, hE67⟩ := hp64
    replace hT := hT.trans (pf_call_eq hE67)
    change pm_J X 18 [(2, (0, y5)), (0, (3, 72)), (1, (0, 5))] [] 118 V63
    have hF68 := pm_fr.tr (pm_fr.rf (ws := [3, 63, 67]) (V := V0)) hF66 (by decide)
    have e69 : V63 72 1 = 63 := by rw [hF66 72 (by decide)]; exact en0
    refine pm_aload_n hC 1 (by decide) dX3_readFactor_18 rfl ?_
    have e70 : V63 72 0 = 3 := hV65.one 72 0 (by decide) (by decide) rfl
    refine pm_getf (v := 3) hC 72 fl_X3_9 rfl rfl (by decide) rfl e70 dX3_readFactor_19 ?_
    refine pm_callV (ci := 9) (as := []) (st := []) hC 3 fC_X9_step lm_X3_43 li_X9_step (by decide) (by decide) rfl rfl rfl (by decide) rfl rfl (Nat.le_of_ble_eq_true rfl) ⟨Nat.le_refl _, Or.inl rfl⟩ dX3_readFactor_22 ⟨rfl, hV65⟩ (fun r71 V72 hp73 => ?_)
    obtain ⟨rfl, hV74, hF75, hE76⟩ := hp73
    replace hT := hT.trans (pf_call_eq hE76)
    change pm_J X 25 [(2, (0, y5)), (0, (3, 72)), (1, (0, 5))] [] 118 V72
    have hF77 := pm_fr.tr hF68 hF75 (by decide)
    have e78 : V72 72 1 = 63 := by rw [hF75 72 (by decide)]; exact e69
    have e79 : V72 72 0 = 3 := by rw [hF75 72 (by decide)]; exact e70
    refine pm_iconst (v := 1) hC dX3_readFactor_25 ?_
    exact pm_iret hC hR (pm_narZ (by omega)) ⟨1, rfl, ⟨by omega, by omega⟩, hV74, hF77, hT⟩ dX3_readFactor_26
set_option maxHeartbeats 4000000 in
set_option maxRecDepth 100000 in
theorem fC_X3_readProduct_63_d5  : pm_K 13 yX3_readProduct cX3_readProduct 3 (some .boolean) (fun av V => av = [(3, 72), (0, 5)] ∧ pm_ok 0 90 V ∧ (63 ≤ V 72 1 ∧ V 72 1 ≤ 63)) (fun _ V r V' => ∃ y, r = some (0, y) ∧ (0 ≤ y ∧ y ≤ 1) ∧ pm_ok 0 90 V' ∧ pm_fr [3, 63, 67] V V' ∧ F_X3_readProduct 63 (pf_fac 63 3) V = (y, V')) := by
  refine pm_MT.of (by decide) ⟨Nat.le_refl _, by decide⟩ (fun av V h => by rw [h.1]; exact (by decide : pm_words [(3, 0), (0, 0)] ≤ 3)) ?_
  rintro X av V0 hC - hR ⟨rfl, hV0, hq0⟩
  change pm_J X 0 [(0, (3, 72)), (1, (0, 5))] [] 118 V0
  have hT := F_X3_readProduct_eq 63 (pf_fac 63 3) V0
  obtain ⟨z0, ez0⟩ : ∃ z, V0 72 1 = z := ⟨_, rfl⟩
  rw [ez0] at hq0
  have en0 : V0 72 1 = 63 := by rw [ez0]; omega
  refine pm_aload_n hC 0 (by decide) dX3_readProduct_0 rfl ?_
  refine pm_iload_n hC 1 dX3_readProduct_1 rfl ?_
  have q4 : 63 ≤ V0 72 1 ∧ V0 72 1 ≤ 63 := by (have e : V0 72 1 = 63 := en0); rw [e]; exact ⟨by decide, by decide⟩
  refine pm_callV (ci := 3) (as := [(0, 5)]) (st := []) hC 72 fC_X3_readFactor_63_d5 lm_X3_90 li_X3_readFactor (by decide) (by decide) rfl rfl rfl (by decide) rfl rfl (Nat.le_of_ble_eq_true rfl) ⟨Nat.le_refl _, Or.inl rfl⟩ dX3_readProduct_2 ⟨rfl, hV0, q4⟩ (fun r1 V2 hp3 => ?_)
  obtain ⟨y5, rfl, b6, hV7, hF8, hE9⟩ := hp3
  replace hT := hT.trans (pf_call_eq hE9)
  change pm_J X 5 [(0, (3, 72)), (1, (0, 5))] [(0, y5)] 118 V2
  have hF10 := pm_fr.tr (pm_fr.rf (ws := [3, 63, 67]) (V := V0)) hF8 (by decide)
  have e11 : V2 72 1 = 63 := by rw [hF8 72 (by decide)]; exact en0
  refine pm_if_ne (tgt := 10) hC ⟨by omega, by omega⟩ dX3_readProduct_5 (by decide) (fun c12 => ?_) (fun c12 => ?_)
  · skip
    replace hT := hT.trans (if_pos c12)
    refine pm_iconst (v := 0) hC dX3_readProduct_10 ?_
    refine pm_istore_n (lv' := [(2, (0, 0)), (0, (3, 72)), (1, (0, 5))]) hC dX3_readProduct_11 (by decide) rfl ?_
    obtain ⟨B19, hB20, hT⟩ := pf_loop hT
    have L22 : ∀ (N24 : Nat) (x13 : Int) (V15 : pm_M), (0 ≤ x13 ∧ x13 ≤ 500) → pm_ok 0 90 V15 → pm_fr [3, 63, 67] V0 V15 → V15 72 1 = 63 → F_X3_readProduct 63 (pf_fac 63 3) V0 = pf_val ((0 : Int), V0) B19 (x13, V15) → (Int.toNat (500 - x13)) = N24 → pm_J X 12 [(0, (3, 72)), (1, (0, 5)), (2, (0, x13))] [] 118 V15 := by
      intro N24
      induction N24 using Nat.strongRecOn with
      | _ N24 ih25 =>
      intro x13 V15 b14 hV16 hF17 e18 hT hm23
      have hb21 := congrFun hB20 (x13, V15)
      refine pm_iload_n hC 2 dX3_readProduct_12 rfl ?_
      refine pm_sipush (v := 500) hC dX3_readProduct_13 (by decide) ?_
      refine pm_icmp_ge (tgt := 64) hC ⟨by omega, by omega⟩ ⟨by decide, by decide⟩ dX3_readProduct_16 (by decide) (fun c26 => ?_) (fun c26 => ?_)
      · skip
        replace hb21 := hb21.trans (if_pos c26)
        refine pm_iconst (v := 1) hC dX3_readProduct_64 ?_
        have hT := hT.trans (pf_val_inr hb21)
        exact pm_iret hC hR (pm_narZ (by omega)) ⟨1, rfl, ⟨by omega, by omega⟩, hV16, hF17, hT⟩ dX3_readProduct_65
      · skip
        replace hb21 := hb21.trans (if_neg (Int.not_le.mpr c26))
        refine pm_aload_n hC 0 (by decide) dX3_readProduct_19 rfl ?_
        have e27 : V15 72 0 = 3 := hV16.one 72 0 (by decide) (by decide) rfl
        refine pm_getf (v := 3) hC 72 fl_X3_9 rfl rfl (by decide) rfl e27 dX3_readProduct_20 ?_
        refine pm_bipush (v := 42) hC dX3_readProduct_23 (by decide) ?_
        obtain ⟨y28, e29⟩ : ∃ y, V15 3 3 = y := ⟨_, rfl⟩
        have b30 := hV16.get 3 3 (lo := (-9223372036854775808)) (hi := 9223372036854775807) (by decide) (by decide) rfl
        rw [e29] at b30
        replace hb21 := hb21.trans (pf_let_eq e29)
        refine pm_callV (ci := 9) (as := [(0, 42)]) (st := []) hC 3 (fC_X9_isSign 42 ⟨by decide, by decide⟩) lm_X3_67 li_X9_isSign (by decide) (by decide) rfl rfl rfl (by decide) rfl rfl (Nat.le_of_ble_eq_true rfl) ⟨Nat.le_refl _, Or.inl rfl⟩ dX3_readProduct_25 ⟨rfl, hV16⟩ (fun r31 V32 hp33 => ?_)
        obtain ⟨y34, rfl, b35, rfl, hE36⟩ := hp33
        replace hb21 := hb21.trans (pf_call_eq hE36)
        change pm_J X 28 [(0, (3, 72)), (1, (0, 5)), (2, (0, x13))] [(0, y34)] 118 V15
        refine pm_if_eq (tgt := 64) hC ⟨by omega, by omega⟩ dX3_readProduct_28 (by decide) (fun c37 => ?_) (fun c37 => ?_)
        · skip
          replace hb21 := hb21.trans (if_pos c37)
          refine pm_iconst (v := 1) hC dX3_readProduct_64 ?_
          have hT := hT.trans (pf_val_inr hb21)
          exact pm_iret hC hR (pm_narZ (by omega)) ⟨1, rfl, ⟨by omega, by omega⟩, hV16, hF17, hT⟩ dX3_readProduct_65
        · skip
          replace hb21 := hb21.trans (if_neg c37)
          refine pm_aload_n hC 0 (by decide) dX3_readProduct_31 rfl ?_
          refine pm_getf (v := 3) hC 72 fl_X3_9 rfl rfl (by decide) rfl e27 dX3_readProduct_32 ?_
          refine pm_callV (ci := 9) (as := []) (st := []) hC 3 fC_X9_step lm_X3_43 li_X9_step (by decide) (by decide) rfl rfl rfl (by decide) rfl rfl (Nat.le_of_ble_eq_true rfl) ⟨Nat.le_refl _, Or.inl rfl⟩ dX3_readProduct_35 ⟨rfl, hV16⟩ (fun r38 V39 hp40 => ?_)
          obtain ⟨rfl, hV41, hF42, hE43⟩ := hp40
          replace hb21 := hb21.trans (pf_call_eq hE43)
          change pm_J X 38 [(0, (3, 72)), (1, (0, 5)), (2, (0, x13))] [] 118 V39
          have hF44 := pm_fr.tr hF17 hF42 (by decide)
          have e45 : V39 72 1 = 63 := by rw [hF42 72 (by decide)]; exact e18
          have e46 : V39 72 0 = 3 := by rw [hF42 72 (by decide)]; exact e27
          refine pm_aload_n hC 0 (by decide) dX3_readProduct_38 rfl ?_
          refine pm_iload_n hC 1 dX3_readProduct_39 rfl ?_
          have q50 : 63 ≤ V39 72 1 ∧ V39 72 1 ≤ 63 := by (have e : V39 72 1 = 63 := e45); rw [e]; exact ⟨by decide, by decide⟩
          refine pm_callV (ci := 3) (as := [(0, 5)]) (st := []) hC 72 fC_X3_readFactor_63_d5 lm_X3_90 li_X3_readFactor (by decide) (by decide) rfl rfl rfl (by decide) rfl rfl (Nat.le_of_ble_eq_true rfl) ⟨Nat.le_refl _, Or.inl rfl⟩ dX3_readProduct_40 ⟨rfl, hV41, q50⟩ (fun r47 V48 hp49 => ?_)
          obtain ⟨y51, rfl, b52, hV53, hF54, hE55⟩ := hp49
          replace hb21 := hb21.trans (pf_call_eq hE55)
          change pm_J X 43 [(0, (3, 72)), (1, (0, 5)), (2, (0, x13))] [(0, y51)] 118 V48
          have hF56 := pm_fr.tr hF44 hF54 (by decide)
          have e57 : V48 72 1 = 63 := by rw [hF54 72 (by decide)]; exact e45
          have e58 : V48 72 0 = 3 := by rw [hF54 72 (by decide)]; exact e46
          refine pm_if_ne (tgt := 48) hC ⟨by omega, by omega⟩ dX3_readProduct_43 (by decide) (fun c59 => ?_) (fun c59 => ?_)
          · skip
            replace hb21 := hb21.trans (if_pos c59)
            refine pm_aload_n hC 0 (by decide) dX3_readProduct_48 rfl ?_
            refine pm_getf (v := 63) hC 72 fl_X3_15 rfl rfl (by decide) rfl e57 dX3_readProduct_49 ?_
            refine pm_sipush (v := 20042) hC dX3_readProduct_52 (by decide) ?_
            refine pm_callV (ci := 2) (as := [(0, 20042)]) (st := []) hC 63 (fC_X2_emit_63 20042 ⟨by decide, by decide⟩) lm_X3_57 li_X2_emit (by decide) (by decide) rfl rfl rfl (by decide) rfl rfl (Nat.le_of_ble_eq_true rfl) ⟨Nat.le_refl _, Or.inl rfl⟩ dX3_readProduct_55 ⟨rfl, hV53⟩ (fun r60 V61 hp62 => ?_)
            obtain ⟨rfl, hV63, hF64, hE65⟩ := hp62
            replace hb21 := hb21.trans (pf_call_eq hE65)
            change pm_J X 58 [(0, (3, 72)), (1, (0, 5)), (2, (0, x13))] [] 118 V61
            have hF66 := pm_fr.tr hF56 hF64 (by decide)
            have e67 : V61 72 1 = 63 := by rw [hF64 72 (by decide)]; exact e57
            have e68 : V61 72 0 = 3 := by rw [hF64 72 (by decide)]; exact e58
            obtain ⟨x69, ei70⟩ : ∃ y : Int, x13 + 1 = y := ⟨_, rfl⟩
            replace hb21 := hb21.trans (pf_let_eq ei70)
            refine pm_iinc (y := x69) (lv' := [(2, (0, x69)), (0, (3, 72)), (1, (0, 5))]) hC 2 dX3_readProduct_58 (by decide) rfl ei70 rfl ?_
            refine pm_goto (tgt := 12) hC dX3_readProduct_61 (by decide) ?_
            refine pm_lvsub [1, 2, 0] (lv' := [(0, (3, 72)), (1, (0, 5)), (2, (0, x69))]) rfl ?_
            exact ih25 _ (by omega) x69 V61 ⟨by omega, by omega⟩ hV63 hF66 e67 (hT.trans (pf_val_inl hb21)) rfl
          · skip
            replace hb21 := hb21.trans (if_neg (fun q => q c59))
            refine pm_iconst (v := 0) hC dX3_readProduct_46 ?_
            have hT := hT.trans (pf_val_inr hb21)
            exact pm_iret hC hR (pm_narZ (by omega)) ⟨0, rfl, ⟨by omega, by omega⟩, hV53, hF56, hT⟩ dX3_readProduct_47
    refine pm_lvsub [1, 2, 0] (lv' := [(0, (3, 72)), (1, (0, 5)), (2, (0, 0))]) rfl ?_
    exact L22 _ 0 V2 ⟨by decide, by decide⟩ hV7 hF10 e11 hT rfl
  · skip
    replace hT := hT.trans (if_neg (fun q => q c12))
    refine pm_iconst (v := 0) hC dX3_readProduct_8 ?_
    exact pm_iret hC hR (pm_narZ (by omega)) ⟨0, rfl, ⟨by omega, by omega⟩, hV7, hF10, hT⟩ dX3_readProduct_9
set_option maxHeartbeats 4000000 in
set_option maxRecDepth 100000 in
theorem fC_X3_readSum_63_d5  : pm_K 14 yX3_readSum cX3_readSum 4 (some .boolean) (fun av V => av = [(3, 72), (0, 5)] ∧ pm_ok 0 90 V ∧ (63 ≤ V 72 1 ∧ V 72 1 ≤ 63)) (fun _ V r V' => ∃ y, r = some (0, y) ∧ (0 ≤ y ∧ y ≤ 1) ∧ pm_ok 0 90 V' ∧ pm_fr [3, 63, 67] V V' ∧ F_X3_readSum 63 (pf_fac 63 3) V = (y, V')) := by
  refine pm_MT.of (by decide) ⟨Nat.le_refl _, by decide⟩ (fun av V h => by rw [h.1]; exact (by decide : pm_words [(3, 0), (0, 0)] ≤ 4)) ?_
  rintro X av V0 hC - hR ⟨rfl, hV0, hq0⟩
  change pm_J X 0 [(0, (3, 72)), (1, (0, 5))] [] 118 V0
  have hT := F_X3_readSum_eq 63 (pf_fac 63 3) V0
  obtain ⟨z0, ez0⟩ : ∃ z, V0 72 1 = z := ⟨_, rfl⟩
  rw [ez0] at hq0
  have en0 : V0 72 1 = 63 := by rw [ez0]; omega
  refine pm_aload_n hC 0 (by decide) dX3_readSum_0 rfl ?_
  refine pm_iload_n hC 1 dX3_readSum_1 rfl ?_
  have q4 : 63 ≤ V0 72 1 ∧ V0 72 1 ≤ 63 := by (have e : V0 72 1 = 63 := en0); rw [e]; exact ⟨by decide, by decide⟩
  refine pm_callV (ci := 3) (as := [(0, 5)]) (st := []) hC 72 fC_X3_readProduct_63_d5 lm_X3_87 li_X3_readProduct (by decide) (by decide) rfl rfl rfl (by decide) rfl rfl (Nat.le_of_ble_eq_true rfl) ⟨Nat.le_refl _, Or.inl rfl⟩ dX3_readSum_2 ⟨rfl, hV0, q4⟩ (fun r1 V2 hp3 => ?_)
  obtain ⟨y5, rfl, b6, hV7, hF8, hE9⟩ := hp3
  replace hT := hT.trans (pf_call_eq hE9)
  change pm_J X 5 [(0, (3, 72)), (1, (0, 5))] [(0, y5)] 118 V2
  have hF10 := pm_fr.tr (pm_fr.rf (ws := [3, 63, 67]) (V := V0)) hF8 (by decide)
  have e11 : V2 72 1 = 63 := by rw [hF8 72 (by decide)]; exact en0
  refine pm_if_ne (tgt := 10) hC ⟨by omega, by omega⟩ dX3_readSum_5 (by decide) (fun c12 => ?_) (fun c12 => ?_)
  · skip
    replace hT := hT.trans (if_pos c12)
    refine pm_iconst (v := 0) hC dX3_readSum_10 ?_
    refine pm_istore_n (lv' := [(2, (0, 0)), (0, (3, 72)), (1, (0, 5))]) hC dX3_readSum_11 (by decide) rfl ?_
    obtain ⟨B19, hB20, hT⟩ := pf_loop hT
    have L22 : ∀ (N24 : Nat) (x13 : Int) (V15 : pm_M), (0 ≤ x13 ∧ x13 ≤ 500) → pm_ok 0 90 V15 → pm_fr [3, 63, 67] V0 V15 → V15 72 1 = 63 → F_X3_readSum 63 (pf_fac 63 3) V0 = pf_val ((0 : Int), V0) B19 (x13, V15) → (Int.toNat (500 - x13)) = N24 → pm_J X 12 [(0, (3, 72)), (1, (0, 5)), (2, (0, x13))] [] 118 V15 := by
      intro N24
      induction N24 using Nat.strongRecOn with
      | _ N24 ih25 =>
      intro x13 V15 b14 hV16 hF17 e18 hT hm23
      have hb21 := congrFun hB20 (x13, V15)
      refine pm_iload_n hC 2 dX3_readSum_12 rfl ?_
      refine pm_sipush (v := 500) hC dX3_readSum_13 (by decide) ?_
      refine pm_icmp_ge (tgt := 87) hC ⟨by omega, by omega⟩ ⟨by decide, by decide⟩ dX3_readSum_16 (by decide) (fun c26 => ?_) (fun c26 => ?_)
      · skip
        replace hb21 := hb21.trans (if_pos c26)
        refine pm_iconst (v := 1) hC dX3_readSum_87 ?_
        have hT := hT.trans (pf_val_inr hb21)
        exact pm_iret hC hR (pm_narZ (by omega)) ⟨1, rfl, ⟨by omega, by omega⟩, hV16, hF17, hT⟩ dX3_readSum_88
      · skip
        replace hb21 := hb21.trans (if_neg (Int.not_le.mpr c26))
        refine pm_aload_n hC 0 (by decide) dX3_readSum_19 rfl ?_
        have e27 : V15 72 0 = 3 := hV16.one 72 0 (by decide) (by decide) rfl
        refine pm_getf (v := 3) hC 72 fl_X3_9 rfl rfl (by decide) rfl e27 dX3_readSum_20 ?_
        refine pm_bipush (v := 43) hC dX3_readSum_23 (by decide) ?_
        obtain ⟨y28, e29⟩ : ∃ y, V15 3 3 = y := ⟨_, rfl⟩
        have b30 := hV16.get 3 3 (lo := (-9223372036854775808)) (hi := 9223372036854775807) (by decide) (by decide) rfl
        rw [e29] at b30
        replace hb21 := hb21.trans (pf_let_eq e29)
        refine pm_callV (ci := 9) (as := [(0, 43)]) (st := []) hC 3 (fC_X9_isSign 43 ⟨by decide, by decide⟩) lm_X3_67 li_X9_isSign (by decide) (by decide) rfl rfl rfl (by decide) rfl rfl (Nat.le_of_ble_eq_true rfl) ⟨Nat.le_refl _, Or.inl rfl⟩ dX3_readSum_25 ⟨rfl, hV16⟩ (fun r31 V32 hp33 => ?_)
        obtain ⟨y34, rfl, b35, rfl, hE36⟩ := hp33
        replace hb21 := hb21.trans (pf_call_eq hE36)
        change pm_J X 28 [(0, (3, 72)), (1, (0, 5)), (2, (0, x13))] [(0, y34)] 118 V15
        refine pm_if_ne (tgt := 43) hC ⟨by omega, by omega⟩ dX3_readSum_28 (by decide) (fun c37 => ?_) (fun c37 => ?_)
        · skip
          replace hb21 := hb21.trans (if_pos c37)
          refine pm_aload_n hC 0 (by decide) dX3_readSum_43 rfl ?_
          refine pm_getf (v := 3) hC 72 fl_X3_9 rfl rfl (by decide) rfl e27 dX3_readSum_44 ?_
          refine pm_getf (v := y28) hC 3 fl_X3_53 rfl rfl (by decide) rfl e29 dX3_readSum_47 ?_
          refine pm_l2i hC dX3_readSum_50 ?_
          refine pm_istore_n (lv' := [(3, (0, y28)), (0, (3, 72)), (1, (0, 5)), (2, (0, x13))]) hC dX3_readSum_51 (by decide) rfl ?_
          refine pm_aload_n hC 1 (by decide) dX3_readSum_52 rfl ?_
          refine pm_getf (v := 3) hC 72 fl_X3_9 rfl rfl (by decide) rfl e27 dX3_readSum_53 ?_
          refine pm_callV (ci := 9) (as := []) (st := []) hC 3 fC_X9_step lm_X3_43 li_X9_step (by decide) (by decide) rfl rfl rfl (by decide) rfl rfl (Nat.le_of_ble_eq_true rfl) ⟨Nat.le_refl _, Or.inl rfl⟩ dX3_readSum_56 ⟨rfl, hV16⟩ (fun r38 V39 hp40 => ?_)
          obtain ⟨rfl, hV41, hF42, hE43⟩ := hp40
          replace hb21 := hb21.trans (pf_call_eq hE43)
          change pm_J X 59 [(3, (0, y28)), (0, (3, 72)), (1, (0, 5)), (2, (0, x13))] [] 118 V39
          have hF44 := pm_fr.tr hF17 hF42 (by decide)
          have e45 : V39 72 1 = 63 := by rw [hF42 72 (by decide)]; exact e18
          have e46 : V39 72 0 = 3 := by rw [hF42 72 (by decide)]; exact e27
          refine pm_aload_n hC 1 (by decide) dX3_readSum_59 rfl ?_
          refine pm_iload_n hC 2 dX3_readSum_60 rfl ?_
          have q50 : 63 ≤ V39 72 1 ∧ V39 72 1 ≤ 63 := by (have e : V39 72 1 = 63 := e45); rw [e]; exact ⟨by decide, by decide⟩
          refine pm_callV (ci := 3) (as := [(0, 5)]) (st := []) hC 72 fC_X3_readProduct_63_d5 lm_X3_87 li_X3_readProduct (by decide) (by decide) rfl rfl rfl (by decide) rfl rfl (Nat.le_of_ble_eq_true rfl) ⟨Nat.le_refl _, Or.inl rfl⟩ dX3_readSum_61 ⟨rfl, hV41, q50⟩ (fun r47 V48 hp49 => ?_)
          obtain ⟨y51, rfl, b52, hV53, hF54, hE55⟩ := hp49
          replace hb21 := hb21.trans (pf_call_eq hE55)
          change pm_J X 64 [(3, (0, y28)), (0, (3, 72)), (1, (0, 5)), (2, (0, x13))] [(0, y51)] 118 V48
          have hF56 := pm_fr.tr hF44 hF54 (by decide)
          have e57 : V48 72 1 = 63 := by rw [hF54 72 (by decide)]; exact e45
          have e58 : V48 72 0 = 3 := by rw [hF54 72 (by decide)]; exact e46
          refine pm_if_ne (tgt := 69) hC ⟨by omega, by omega⟩ dX3_readSum_64 (by decide) (fun c59 => ?_) (fun c59 => ?_)
          · skip
            replace hb21 := hb21.trans (if_pos c59)
            refine pm_aload_n hC 1 (by decide) dX3_readSum_69 rfl ?_
            refine pm_getf (v := 63) hC 72 fl_X3_15 rfl rfl (by decide) rfl e57 dX3_readSum_70 ?_
            refine pm_sipush (v := 20000) hC dX3_readSum_73 (by decide) ?_
            refine pm_iload_n hC 0 dX3_readSum_76 rfl ?_
            refine pm_iadd hC dX3_readSum_77 ?_
            refine pm_callV (ci := 2) (as := [(0, (20000 + y28))]) (st := []) hC 63 (fC_X2_emit_63 (20000 + y28) ⟨by omega, by omega⟩) lm_X3_57 li_X2_emit (by decide) (by decide) rfl rfl rfl (by decide) rfl rfl (Nat.le_of_ble_eq_true rfl) ⟨Nat.le_refl _, Or.inl rfl⟩ dX3_readSum_78 ⟨rfl, hV53⟩ (fun r60 V61 hp62 => ?_)
            obtain ⟨rfl, hV63, hF64, hE65⟩ := hp62
            replace hb21 := hb21.trans (pf_call_eq hE65)
            change pm_J X 81 [(3, (0, y28)), (0, (3, 72)), (1, (0, 5)), (2, (0, x13))] [] 118 V61
            have hF66 := pm_fr.tr hF56 hF64 (by decide)
            have e67 : V61 72 1 = 63 := by rw [hF64 72 (by decide)]; exact e57
            have e68 : V61 72 0 = 3 := by rw [hF64 72 (by decide)]; exact e58
            obtain ⟨x69, ei70⟩ : ∃ y : Int, x13 + 1 = y := ⟨_, rfl⟩
            replace hb21 := hb21.trans (pf_let_eq ei70)
            refine pm_iinc (y := x69) (lv' := [(2, (0, x69)), (3, (0, y28)), (0, (3, 72)), (1, (0, 5))]) hC 3 dX3_readSum_81 (by decide) rfl ei70 rfl ?_
            refine pm_goto (tgt := 12) hC dX3_readSum_84 (by decide) ?_
            refine pm_lvsub [2, 3, 0] (lv' := [(0, (3, 72)), (1, (0, 5)), (2, (0, x69))]) rfl ?_
            exact ih25 _ (by omega) x69 V61 ⟨by omega, by omega⟩ hV63 hF66 e67 (hT.trans (pf_val_inl hb21)) rfl
          · skip
            replace hb21 := hb21.trans (if_neg (fun q => q c59))
            refine pm_iconst (v := 0) hC dX3_readSum_67 ?_
            have hT := hT.trans (pf_val_inr hb21)
            exact pm_iret hC hR (pm_narZ (by omega)) ⟨0, rfl, ⟨by omega, by omega⟩, hV53, hF56, hT⟩ dX3_readSum_68
        · skip
          replace hb21 := hb21.trans (if_neg (fun q => q c37))
          refine pm_aload_n hC 0 (by decide) dX3_readSum_31 rfl ?_
          refine pm_getf (v := 3) hC 72 fl_X3_9 rfl rfl (by decide) rfl e27 dX3_readSum_32 ?_
          refine pm_bipush (v := 45) hC dX3_readSum_35 (by decide) ?_
          refine pm_callV (ci := 9) (as := [(0, 45)]) (st := []) hC 3 (fC_X9_isSign 45 ⟨by decide, by decide⟩) lm_X3_67 li_X9_isSign (by decide) (by decide) rfl rfl rfl (by decide) rfl rfl (Nat.le_of_ble_eq_true rfl) ⟨Nat.le_refl _, Or.inl rfl⟩ dX3_readSum_37 ⟨rfl, hV16⟩ (fun r71 V72 hp73 => ?_)
          obtain ⟨y74, rfl, b75, rfl, hE76⟩ := hp73
          replace hb21 := hb21.trans (pf_call_eq hE76)
          change pm_J X 40 [(0, (3, 72)), (1, (0, 5)), (2, (0, x13))] [(0, y74)] 118 V15
          refine pm_if_eq (tgt := 87) hC ⟨by omega, by omega⟩ dX3_readSum_40 (by decide) (fun c77 => ?_) (fun c77 => ?_)
          · skip
            replace hb21 := hb21.trans (if_pos c77)
            refine pm_iconst (v := 1) hC dX3_readSum_87 ?_
            have hT := hT.trans (pf_val_inr hb21)
            exact pm_iret hC hR (pm_narZ (by omega)) ⟨1, rfl, ⟨by omega, by omega⟩, hV16, hF17, hT⟩ dX3_readSum_88
          · skip
            replace hb21 := hb21.trans (if_neg c77)
            refine pm_aload_n hC 0 (by decide) dX3_readSum_43 rfl ?_
            refine pm_getf (v := 3) hC 72 fl_X3_9 rfl rfl (by decide) rfl e27 dX3_readSum_44 ?_
            refine pm_getf (v := y28) hC 3 fl_X3_53 rfl rfl (by decide) rfl e29 dX3_readSum_47 ?_
            refine pm_l2i hC dX3_readSum_50 ?_
            refine pm_istore_n (lv' := [(3, (0, y28)), (0, (3, 72)), (1, (0, 5)), (2, (0, x13))]) hC dX3_readSum_51 (by decide) rfl ?_
            refine pm_aload_n hC 1 (by decide) dX3_readSum_52 rfl ?_
            refine pm_getf (v := 3) hC 72 fl_X3_9 rfl rfl (by decide) rfl e27 dX3_readSum_53 ?_
            refine pm_callV (ci := 9) (as := []) (st := []) hC 3 fC_X9_step lm_X3_43 li_X9_step (by decide) (by decide) rfl rfl rfl (by decide) rfl rfl (Nat.le_of_ble_eq_true rfl) ⟨Nat.le_refl _, Or.inl rfl⟩ dX3_readSum_56 ⟨rfl, hV16⟩ (fun r78 V79 hp80 => ?_)
            obtain ⟨rfl, hV81, hF82, hE83⟩ := hp80
            replace hb21 := hb21.trans (pf_call_eq hE83)
            change pm_J X 59 [(3, (0, y28)), (0, (3, 72)), (1, (0, 5)), (2, (0, x13))] [] 118 V79
            have hF84 := pm_fr.tr hF17 hF82 (by decide)
            have e85 : V79 72 1 = 63 := by rw [hF82 72 (by decide)]; exact e18
            have e86 : V79 72 0 = 3 := by rw [hF82 72 (by decide)]; exact e27
            refine pm_aload_n hC 1 (by decide) dX3_readSum_59 rfl ?_
            refine pm_iload_n hC 2 dX3_readSum_60 rfl ?_
            have q90 : 63 ≤ V79 72 1 ∧ V79 72 1 ≤ 63 := by (have e : V79 72 1 = 63 := e85); rw [e]; exact ⟨by decide, by decide⟩
            refine pm_callV (ci := 3) (as := [(0, 5)]) (st := []) hC 72 fC_X3_readProduct_63_d5 lm_X3_87 li_X3_readProduct (by decide) (by decide) rfl rfl rfl (by decide) rfl rfl (Nat.le_of_ble_eq_true rfl) ⟨Nat.le_refl _, Or.inl rfl⟩ dX3_readSum_61 ⟨rfl, hV81, q90⟩ (fun r87 V88 hp89 => ?_)
            obtain ⟨y91, rfl, b92, hV93, hF94, hE95⟩ := hp89
            replace hb21 := hb21.trans (pf_call_eq hE95)
            change pm_J X 64 [(3, (0, y28)), (0, (3, 72)), (1, (0, 5)), (2, (0, x13))] [(0, y91)] 118 V88
            have hF96 := pm_fr.tr hF84 hF94 (by decide)
            have e97 : V88 72 1 = 63 := by rw [hF94 72 (by decide)]; exact e85
            have e98 : V88 72 0 = 3 := by rw [hF94 72 (by decide)]; exact e86
            refine pm_if_ne (tgt := 69) hC ⟨by omega, by omega⟩ dX3_readSum_64 (by decide) (fun c99 => ?_) (fun c99 => ?_)
            · skip
              replace hb21 := hb21.trans (if_pos c99)
              refine pm_aload_n hC 1 (by decide) dX3_readSum_69 rfl ?_
              refine pm_getf (v := 63) hC 72 fl_X3_15 rfl rfl (by decide) rfl e97 dX3_readSum_70 ?_
              refine pm_sipush (v := 20000) hC dX3_readSum_73 (by decide) ?_
              refine pm_iload_n hC 0 dX3_readSum_76 rfl ?_
              refine pm_iadd hC dX3_readSum_77 ?_
              refine pm_callV (ci := 2) (as := [(0, (20000 + y28))]) (st := []) hC 63 (fC_X2_emit_63 (20000 + y28) ⟨by omega, by omega⟩) lm_X3_57 li_X2_emit (by decide) (by decide) rfl rfl rfl (by decide) rfl rfl (Nat.le_of_ble_eq_true rfl) ⟨Nat.le_refl _, Or.inl rfl⟩ dX3_readSum_78 ⟨rfl, hV93⟩ (fun r100 V101 hp102 => ?_)
              obtain ⟨rfl, hV103, hF104, hE105⟩ := hp102
              replace hb21 := hb21.trans (pf_call_eq hE105)
              change pm_J X 81 [(3, (0, y28)), (0, (3, 72)), (1, (0, 5)), (2, (0, x13))] [] 118 V101
              have hF106 := pm_fr.tr hF96 hF104 (by decide)
              have e107 : V101 72 1 = 63 := by rw [hF104 72 (by decide)]; exact e97
              have e108 : V101 72 0 = 3 := by rw [hF104 72 (by decide)]; exact e98
              obtain ⟨x109, ei110⟩ : ∃ y : Int, x13 + 1 = y := ⟨_, rfl⟩
              replace hb21 := hb21.trans (pf_let_eq ei110)
              refine pm_iinc (y := x109) (lv' := [(2, (0, x109)), (3, (0, y28)), (0, (3, 72)), (1, (0, 5))]) hC 3 dX3_readSum_81 (by decide) rfl ei110 rfl ?_
              refine pm_goto (tgt := 12) hC dX3_readSum_84 (by decide) ?_
              refine pm_lvsub [2, 3, 0] (lv' := [(0, (3, 72)), (1, (0, 5)), (2, (0, x109))]) rfl ?_
              exact ih25 _ (by omega) x109 V101 ⟨by omega, by omega⟩ hV103 hF106 e107 (hT.trans (pf_val_inl hb21)) rfl
            · skip
              replace hb21 := hb21.trans (if_neg (fun q => q c99))
              refine pm_iconst (v := 0) hC dX3_readSum_67 ?_
              have hT := hT.trans (pf_val_inr hb21)
              exact pm_iret hC hR (pm_narZ (by omega)) ⟨0, rfl, ⟨by omega, by omega⟩, hV93, hF96, hT⟩ dX3_readSum_68
    refine pm_lvsub [1, 2, 0] (lv' := [(0, (3, 72)), (1, (0, 5)), (2, (0, 0))]) rfl ?_
    exact L22 _ 0 V2 ⟨by decide, by decide⟩ hV7 hF10 e11 hT rfl
  · skip
    replace hT := hT.trans (if_neg (fun q => q c12))
    refine pm_iconst (v := 0) hC dX3_readSum_8 ?_
    exact pm_iret hC hR (pm_narZ (by omega)) ⟨0, rfl, ⟨by omega, by omega⟩, hV7, hF10, hT⟩ dX3_readSum_9
