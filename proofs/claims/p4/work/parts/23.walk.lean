set_option maxHeartbeats 4000000 in
set_option maxRecDepth 100000 in
theorem c_X11_answer_0 (a1 a2 a3 a4 : Int) (h0 : (-2147483648) ≤ a1 ∧ a1 ≤ 2147483647) (h1 : (-2147483648) ≤ a2 ∧ a2 ≤ 2147483647) (h2 : (-2147483648) ≤ a3 ∧ a3 ≤ 2147483647) (h3 : (-2147483648) ≤ a4 ∧ a4 ≤ 2147483647) : pm_K 3 yX11_answer cX11_answer 6 (some .int) (fun av V => av = [(3, 0), (0, a1), (0, a2), (0, a3), (0, a4)] ∧ pm_ok 0 90 V) (fun _ V r V' => ∃ y, r = some (0, y) ∧ ((-1) ≤ y ∧ y ≤ 60) ∧ pm_ok 0 90 V' ∧ pm_fr [4, 9, 10, 11, 12, 13] V V') := by
  refine pm_MT.of (by decide) ⟨Nat.le_refl _, by decide⟩ (fun av V h => by rw [h.1]; exact (by decide : pm_words [(3, 0), (0, 0), (0, 0), (0, 0), (0, 0)] ≤ 6)) ?_
  rintro X av V0 hC - hR ⟨rfl, hV0⟩
  change pm_J X 0 [(0, (3, 0)), (1, (0, a1)), (2, (0, a2)), (3, (0, a3)), (4, (0, a4))] [] 118 V0
  refine pm_aload_n hC 0 (by decide) dX11_answer_0 rfl ?_
  refine pm_iload_n hC 1 dX11_answer_1 rfl ?_
  refine pm_iload_n hC 2 dX11_answer_2 rfl ?_
  refine pm_iload_n hC 3 dX11_answer_3 rfl ?_
  refine pm_callV (ci := 11) (as := [(0, a1), (0, a2), (0, a3)]) (st := []) hC 0 (c_X11_isTrial_0 a1 a2 a3 ⟨by omega, by omega⟩ ⟨by omega, by omega⟩ ⟨by omega, by omega⟩) lm_X11_225 li_X11_isTrial (by decide) (by decide) rfl rfl rfl (by decide) rfl rfl (Nat.le_of_ble_eq_true rfl) ⟨Nat.le_refl _, Or.inl rfl⟩ dX11_answer_4 ⟨rfl, hV0⟩ (fun r1 V2 hp3 => ?_)
  obtain ⟨y4, rfl, b5, rfl⟩ := hp3
  change pm_J X 7 [(0, (3, 0)), (1, (0, a1)), (2, (0, a2)), (3, (0, a3)), (4, (0, a4))] [(0, y4)] 118 V0
  refine pm_if_eq (tgt := 40) hC ⟨by omega, by omega⟩ dX11_answer_7 (by decide) (fun c6 => ?_) (fun c6 => ?_)
  · skip
    refine pm_iconst (v := 0) hC dX11_answer_40 ?_
    refine pm_istore (lv' := [(5, (0, 0)), (0, (3, 0)), (1, (0, a1)), (2, (0, a2)), (3, (0, a3)), (4, (0, a4))]) hC dX11_answer_41 (by decide) rfl ?_
    refine pm_iload hC 0 dX11_answer_43 rfl ?_
    refine pm_if_eq (tgt := 60) hC ⟨by decide, by decide⟩ dX11_answer_45 (by decide) (fun c7 => ?_) (fun c7 => ?_)
    · skip
      refine pm_iconst (v := (-1)) hC dX11_answer_60 ?_
      exact pm_iret hC hR pm_nar0 ⟨(-1), rfl, ⟨by omega, by omega⟩, hV0, (pm_fr.rf (ws := [4, 9, 10, 11, 12, 13]) (V := V0))⟩ dX11_answer_61
    · skip
      exfalso; omega
  · skip
    refine pm_iload hC 4 dX11_answer_10 rfl ?_
    refine pm_if_lt (tgt := 40) hC ⟨by omega, by omega⟩ dX11_answer_12 (by decide) (fun c8 => ?_) (fun c8 => ?_)
    · skip
      refine pm_iconst (v := 0) hC dX11_answer_40 ?_
      refine pm_istore (lv' := [(5, (0, 0)), (0, (3, 0)), (1, (0, a1)), (2, (0, a2)), (3, (0, a3)), (4, (0, a4))]) hC dX11_answer_41 (by decide) rfl ?_
      refine pm_iload hC 0 dX11_answer_43 rfl ?_
      refine pm_if_eq (tgt := 60) hC ⟨by decide, by decide⟩ dX11_answer_45 (by decide) (fun c9 => ?_) (fun c9 => ?_)
      · skip
        refine pm_iconst (v := (-1)) hC dX11_answer_60 ?_
        exact pm_iret hC hR pm_nar0 ⟨(-1), rfl, ⟨by omega, by omega⟩, hV0, (pm_fr.rf (ws := [4, 9, 10, 11, 12, 13]) (V := V0))⟩ dX11_answer_61
      · skip
        exfalso; omega
    · skip
      refine pm_iload hC 4 dX11_answer_15 rfl ?_
      refine pm_bipush (v := 100) hC dX11_answer_17 (by decide) ?_
      refine pm_idiv hC ⟨by omega, by omega, by omega⟩ ⟨by decide, by decide, by decide⟩ dX11_answer_19 ?_
      refine pm_iconst (v := 1) hC dX11_answer_20 ?_
      refine pm_icmp_gt (tgt := 40) hC ⟨by omega, by omega⟩ ⟨by decide, by decide⟩ dX11_answer_21 (by decide) (fun c10 => ?_) (fun c10 => ?_)
      · skip
        refine pm_iconst (v := 0) hC dX11_answer_40 ?_
        refine pm_istore (lv' := [(5, (0, 0)), (0, (3, 0)), (1, (0, a1)), (2, (0, a2)), (3, (0, a3)), (4, (0, a4))]) hC dX11_answer_41 (by decide) rfl ?_
        refine pm_iload hC 0 dX11_answer_43 rfl ?_
        refine pm_if_eq (tgt := 60) hC ⟨by decide, by decide⟩ dX11_answer_45 (by decide) (fun c11 => ?_) (fun c11 => ?_)
        · skip
          refine pm_iconst (v := (-1)) hC dX11_answer_60 ?_
          exact pm_iret hC hR pm_nar0 ⟨(-1), rfl, ⟨by omega, by omega⟩, hV0, (pm_fr.rf (ws := [4, 9, 10, 11, 12, 13]) (V := V0))⟩ dX11_answer_61
        · skip
          exfalso; omega
      · skip
        refine pm_aload_n hC 0 (by decide) dX11_answer_24 rfl ?_
        refine pm_iload hC 4 dX11_answer_25 rfl ?_
        refine pm_bipush (v := 100) hC dX11_answer_27 (by decide) ?_
        refine pm_irem hC ⟨by omega, by omega, by omega⟩ ⟨by decide, by decide, by decide⟩ dX11_answer_29 ?_
        refine pm_callV (ci := 11) (as := [(0, (a4 % 100))]) (st := []) hC 0 (c_X11_isSound_0 (a4 % 100) ⟨by omega, by omega⟩) lm_X11_142 li_X11_isSound (by decide) (by decide) rfl rfl rfl (by decide) rfl rfl (Nat.le_of_ble_eq_true rfl) ⟨Nat.le_refl _, Or.inl rfl⟩ dX11_answer_30 ⟨rfl, hV0⟩ (fun r12 V13 hp14 => ?_)
        obtain ⟨y15, rfl, b16, rfl⟩ := hp14
        change pm_J X 33 [(0, (3, 0)), (1, (0, a1)), (2, (0, a2)), (3, (0, a3)), (4, (0, a4))] [(0, y15)] 118 V0
        refine pm_if_eq (tgt := 40) hC ⟨by omega, by omega⟩ dX11_answer_33 (by decide) (fun c17 => ?_) (fun c17 => ?_)
        · skip
          refine pm_iconst (v := 0) hC dX11_answer_40 ?_
          refine pm_istore (lv' := [(5, (0, 0)), (0, (3, 0)), (1, (0, a1)), (2, (0, a2)), (3, (0, a3)), (4, (0, a4))]) hC dX11_answer_41 (by decide) rfl ?_
          refine pm_iload hC 0 dX11_answer_43 rfl ?_
          refine pm_if_eq (tgt := 60) hC ⟨by decide, by decide⟩ dX11_answer_45 (by decide) (fun c18 => ?_) (fun c18 => ?_)
          · skip
            refine pm_iconst (v := (-1)) hC dX11_answer_60 ?_
            exact pm_iret hC hR pm_nar0 ⟨(-1), rfl, ⟨by omega, by omega⟩, hV0, (pm_fr.rf (ws := [4, 9, 10, 11, 12, 13]) (V := V0))⟩ dX11_answer_61
          · skip
            exfalso; omega
        · skip
          refine pm_iconst (v := 1) hC dX11_answer_36 ?_
          refine pm_goto (tgt := 41) hC dX11_answer_37 (by decide) ?_
          refine pm_istore (lv' := [(5, (0, 1)), (0, (3, 0)), (1, (0, a1)), (2, (0, a2)), (3, (0, a3)), (4, (0, a4))]) hC dX11_answer_41 (by decide) rfl ?_
          refine pm_iload hC 0 dX11_answer_43 rfl ?_
          refine pm_if_eq (tgt := 60) hC ⟨by decide, by decide⟩ dX11_answer_45 (by decide) (fun c19 => ?_) (fun c19 => ?_)
          · skip
            exfalso; omega
          · skip
            refine pm_aload_n hC 1 (by decide) dX11_answer_48 rfl ?_
            have e20 : V0 0 3 = 4 := hV0.one 0 3 (by decide) (by decide) rfl
            refine pm_getf (v := 4) hC 0 fl_X11_24 rfl rfl (by decide) rfl e20 dX11_answer_49 ?_
            obtain ⟨y21, e22⟩ : ∃ y, V0 4 6 = y := ⟨_, rfl⟩
            have b23 := hV0.get 4 6 (lo := 0) (hi := 60) (by decide) (by decide) rfl
            rw [e22] at b23
            refine pm_getf (v := y21) hC 4 fl_X11_162 rfl rfl (by decide) rfl e22 dX11_answer_52 ?_
            refine pm_bipush (v := 60) hC dX11_answer_55 (by decide) ?_
            refine pm_icmp_lt (tgt := 62) hC ⟨by omega, by omega⟩ ⟨by decide, by decide⟩ dX11_answer_57 (by decide) (fun c24 => ?_) (fun c24 => ?_)
            · skip
              refine pm_aload_n hC 1 (by decide) dX11_answer_62 rfl ?_
              refine pm_getf (v := 4) hC 0 fl_X11_24 rfl rfl (by decide) rfl e20 dX11_answer_63 ?_
              refine pm_iload_n hC 2 dX11_answer_66 rfl ?_
              refine pm_iload_n hC 3 dX11_answer_67 rfl ?_
              refine pm_iload_n hC 4 dX11_answer_68 rfl ?_
              refine pm_iload hC 5 dX11_answer_69 rfl ?_
              refine pm_bipush (v := 100) hC dX11_answer_71 (by decide) ?_
              refine pm_irem hC ⟨by omega, by omega, by omega⟩ ⟨by decide, by decide, by decide⟩ dX11_answer_73 ?_
              refine pm_iload hC 5 dX11_answer_74 rfl ?_
              refine pm_bipush (v := 100) hC dX11_answer_76 (by decide) ?_
              refine pm_icmp_lt (tgt := 85) hC ⟨by omega, by omega⟩ ⟨by decide, by decide⟩ dX11_answer_78 (by decide) (fun c25 => ?_) (fun c25 => ?_)
              · skip
                refine pm_iconst (v := 0) hC dX11_answer_85 ?_
                refine pm_callV (ci := 7) (as := [(0, a1), (0, a2), (0, a3), (0, (a4 % 100)), (0, 0)]) (st := []) hC 4 (c_X7_addAnswer_4 a1 a2 a3 (a4 % 100) 0 ⟨by omega, by omega⟩ ⟨by omega, by omega⟩ ⟨by omega, by omega⟩ ⟨by omega, by omega⟩ ⟨by decide, by decide⟩ (by omega)) lm_X11_236 li_X7_addAnswer (by decide) (by decide) rfl rfl rfl (by decide) rfl rfl (Nat.le_of_ble_eq_true rfl) ⟨Nat.le_refl _, Or.inl rfl⟩ dX11_answer_86 ⟨rfl, hV0⟩ (fun r26 V27 hp28 => ?_)
                obtain ⟨rfl, hV29, hF30⟩ := hp28
                change pm_J X 89 [(5, (0, 1)), (0, (3, 0)), (1, (0, a1)), (2, (0, a2)), (3, (0, a3)), (4, (0, a4))] [] 118 V27
                have hF31 := pm_fr.tr (pm_fr.rf (ws := [4, 9, 10, 11, 12, 13]) (V := V0)) hF30 (by decide)
                have e32 : V27 0 3 = 4 := by rw [hF30 0 (by decide)]; exact e20
                refine pm_aload_n hC 1 (by decide) dX11_answer_89 rfl ?_
                refine pm_getf (v := 4) hC 0 fl_X11_24 rfl rfl (by decide) rfl e32 dX11_answer_90 ?_
                obtain ⟨y33, e34⟩ : ∃ y, V27 4 6 = y := ⟨_, rfl⟩
                have b35 := hV29.get 4 6 (lo := 0) (hi := 60) (by decide) (by decide) rfl
                rw [e34] at b35
                refine pm_getf (v := y33) hC 4 fl_X11_162 rfl rfl (by decide) rfl e34 dX11_answer_93 ?_
                exact pm_iret hC hR pm_nar0 ⟨y33, rfl, ⟨by omega, by omega⟩, hV29, hF31⟩ dX11_answer_96
              · skip
                refine pm_iconst (v := 1) hC dX11_answer_81 ?_
                refine pm_goto (tgt := 86) hC dX11_answer_82 (by decide) ?_
                refine pm_callV (ci := 7) (as := [(0, a1), (0, a2), (0, a3), (0, (a4 % 100)), (0, 1)]) (st := []) hC 4 (c_X7_addAnswer_4 a1 a2 a3 (a4 % 100) 1 ⟨by omega, by omega⟩ ⟨by omega, by omega⟩ ⟨by omega, by omega⟩ ⟨by omega, by omega⟩ ⟨by decide, by decide⟩ (by omega)) lm_X11_236 li_X7_addAnswer (by decide) (by decide) rfl rfl rfl (by decide) rfl rfl (Nat.le_of_ble_eq_true rfl) ⟨Nat.le_refl _, Or.inl rfl⟩ dX11_answer_86 ⟨rfl, hV0⟩ (fun r36 V37 hp38 => ?_)
                obtain ⟨rfl, hV39, hF40⟩ := hp38
                change pm_J X 89 [(5, (0, 1)), (0, (3, 0)), (1, (0, a1)), (2, (0, a2)), (3, (0, a3)), (4, (0, a4))] [] 118 V37
                have hF41 := pm_fr.tr (pm_fr.rf (ws := [4, 9, 10, 11, 12, 13]) (V := V0)) hF40 (by decide)
                have e42 : V37 0 3 = 4 := by rw [hF40 0 (by decide)]; exact e20
                refine pm_aload_n hC 1 (by decide) dX11_answer_89 rfl ?_
                refine pm_getf (v := 4) hC 0 fl_X11_24 rfl rfl (by decide) rfl e42 dX11_answer_90 ?_
                obtain ⟨y43, e44⟩ : ∃ y, V37 4 6 = y := ⟨_, rfl⟩
                have b45 := hV39.get 4 6 (lo := 0) (hi := 60) (by decide) (by decide) rfl
                rw [e44] at b45
                refine pm_getf (v := y43) hC 4 fl_X11_162 rfl rfl (by decide) rfl e44 dX11_answer_93 ?_
                exact pm_iret hC hR pm_nar0 ⟨y43, rfl, ⟨by omega, by omega⟩, hV39, hF41⟩ dX11_answer_96
            · skip
              refine pm_iconst (v := (-1)) hC dX11_answer_60 ?_
              exact pm_iret hC hR pm_nar0 ⟨(-1), rfl, ⟨by omega, by omega⟩, hV0, (pm_fr.rf (ws := [4, 9, 10, 11, 12, 13]) (V := V0))⟩ dX11_answer_61
set_option maxHeartbeats 4000000 in
set_option maxRecDepth 100000 in
theorem c_X11_undo_0  : pm_K 1 yX11_undo cX11_undo 1 (some .int) (fun av V => av = [(3, 0)] ∧ pm_ok 0 90 V) (fun _ V r V' => ∃ y, r = some (0, y) ∧ ((-1) ≤ y ∧ y ≤ 59) ∧ pm_ok 0 90 V' ∧ pm_fr [4] V V') := by
  refine pm_MT.of (by decide) ⟨Nat.le_refl _, by decide⟩ (fun av V h => by rw [h.1]; exact (by decide : pm_words [(3, 0)] ≤ 1)) ?_
  rintro X av V0 hC - hR ⟨rfl, hV0⟩
  change pm_J X 0 [(0, (3, 0))] [] 118 V0
  refine pm_aload_n hC 0 (by decide) dX11_undo_0 rfl ?_
  have e1 : V0 0 3 = 4 := hV0.one 0 3 (by decide) (by decide) rfl
  refine pm_getf (v := 4) hC 0 fl_X11_24 rfl rfl (by decide) rfl e1 dX11_undo_1 ?_
  obtain ⟨y2, e3⟩ : ∃ y, V0 4 6 = y := ⟨_, rfl⟩
  have b4 := hV0.get 4 6 (lo := 0) (hi := 60) (by decide) (by decide) rfl
  rw [e3] at b4
  refine pm_getf (v := y2) hC 4 fl_X11_162 rfl rfl (by decide) rfl e3 dX11_undo_4 ?_
  refine pm_if_gt (tgt := 12) hC ⟨by omega, by omega⟩ dX11_undo_7 (by decide) (fun c5 => ?_) (fun c5 => ?_)
  · skip
    refine pm_aload_n hC 0 (by decide) dX11_undo_12 rfl ?_
    refine pm_getf (v := 4) hC 0 fl_X11_24 rfl rfl (by decide) rfl e1 dX11_undo_13 ?_
    refine pm_dup hC rfl dX11_undo_16 ?_
    refine pm_getf (v := y2) hC 4 fl_X11_162 rfl rfl (by decide) rfl e3 dX11_undo_17 ?_
    refine pm_iconst (v := 1) hC dX11_undo_20 ?_
    refine pm_isub hC dX11_undo_21 ?_
    refine pm_putf hC 4 fl_X11_162 rfl rfl rfl (by decide) rfl trivial dX11_undo_22 ?_
    refine pm_aload_n hC 0 (by decide) dX11_undo_25 rfl ?_
    refine pm_getf (v := 4) hC 0 fl_X11_24 rfl rfl (by decide) rfl e1 dX11_undo_26 ?_
    refine pm_getf (v := (y2 - 1)) hC 4 fl_X11_162 rfl rfl (by decide) rfl rfl dX11_undo_29 ?_
    exact pm_iret hC hR pm_nar0 ⟨(y2 - 1), rfl, ⟨by omega, by omega⟩, (hV0.put 4 6 (x := (y2 - 1)) (lo := 0) (hi := 60) rfl ⟨by omega, by omega⟩), ((pm_fr.rf (ws := [4]) (V := V0)).up 4 6 (y2 - 1) rfl)⟩ dX11_undo_32
  · skip
    refine pm_iconst (v := (-1)) hC dX11_undo_10 ?_
    exact pm_iret hC hR pm_nar0 ⟨(-1), rfl, ⟨by omega, by omega⟩, hV0, (pm_fr.rf (ws := [4]) (V := V0))⟩ dX11_undo_11
set_option maxHeartbeats 4000000 in
set_option maxRecDepth 100000 in
theorem c_X7_isAnswer_4 (a1 : Int) (h0 : (-2147483648) ≤ a1 ∧ a1 ≤ 2147483647) : pm_K 1 yX7_isAnswer cX7_isAnswer 2 (some .boolean) (fun av V => av = [(3, 4), (0, a1)] ∧ pm_ok 0 90 V) (fun _ V r V' => ∃ y, r = some (0, y) ∧ (0 ≤ y ∧ y ≤ 1 ∧ (y = 1 → (0 ≤ a1 ∧ a1 ≤ 59))) ∧ V = V') := by
  refine pm_MT.of (by decide) ⟨Nat.le_refl _, by decide⟩ (fun av V h => by rw [h.1]; exact (by decide : pm_words [(3, 0), (0, 0)] ≤ 2)) ?_
  rintro X av V0 hC - hR ⟨rfl, hV0⟩
  change pm_J X 0 [(0, (3, 4)), (1, (0, a1))] [] 118 V0
  refine pm_iload_n hC 1 dX7_isAnswer_0 rfl ?_
  refine pm_if_lt (tgt := 16) hC ⟨by omega, by omega⟩ dX7_isAnswer_1 (by decide) (fun c1 => ?_) (fun c1 => ?_)
  · skip
    refine pm_iconst (v := 0) hC dX7_isAnswer_16 ?_
    exact pm_iret hC hR (pm_narZ (by omega)) ⟨0, rfl, ⟨by omega, by omega, by omega⟩, rfl⟩ dX7_isAnswer_17
  · skip
    refine pm_iload_n hC 1 dX7_isAnswer_4 rfl ?_
    refine pm_aload_n hC 0 (by decide) dX7_isAnswer_5 rfl ?_
    obtain ⟨y2, e3⟩ : ∃ y, V0 4 6 = y := ⟨_, rfl⟩
    have b4 := hV0.get 4 6 (lo := 0) (hi := 60) (by decide) (by decide) rfl
    rw [e3] at b4
    refine pm_getf (v := y2) hC 4 fl_X7_32 rfl rfl (by decide) rfl e3 dX7_isAnswer_6 ?_
    refine pm_icmp_ge (tgt := 16) hC ⟨by omega, by omega⟩ ⟨by omega, by omega⟩ dX7_isAnswer_9 (by decide) (fun c5 => ?_) (fun c5 => ?_)
    · skip
      refine pm_iconst (v := 0) hC dX7_isAnswer_16 ?_
      exact pm_iret hC hR (pm_narZ (by omega)) ⟨0, rfl, ⟨by omega, by omega, by omega⟩, rfl⟩ dX7_isAnswer_17
    · skip
      refine pm_iconst (v := 1) hC dX7_isAnswer_12 ?_
      refine pm_goto (tgt := 17) hC dX7_isAnswer_13 (by decide) ?_
      exact pm_iret hC hR (pm_narZ (by omega)) ⟨1, rfl, ⟨by omega, by omega, by omega⟩, rfl⟩ dX7_isAnswer_17
set_option maxHeartbeats 4000000 in
set_option maxRecDepth 100000 in
theorem c_X7_kindOfAnswer_4 (a1 : Int) (h0 : 0 ≤ a1 ∧ a1 ≤ 59) : pm_K 2 yX7_kindOfAnswer cX7_kindOfAnswer 2 (some .int) (fun av V => av = [(3, 4), (0, a1)] ∧ pm_ok 0 90 V) (fun _ V r V' => ∃ y, r = some (0, y) ∧ (0 ≤ y ∧ y ≤ 3) ∧ V = V') := by
  refine pm_MT.of (by decide) ⟨Nat.le_refl _, by decide⟩ (fun av V h => by rw [h.1]; exact (by decide : pm_words [(3, 0), (0, 0)] ≤ 2)) ?_
  rintro X av V0 hC - hR ⟨rfl, hV0⟩
  change pm_J X 0 [(0, (3, 4)), (1, (0, a1))] [] 118 V0
  refine pm_aload_n hC 0 (by decide) dX7_kindOfAnswer_0 rfl ?_
  have e1 : V0 4 7 = 9 := hV0.one 4 7 (by decide) (by decide) rfl
  refine pm_getf (v := 9) hC 4 fl_X7_35 rfl rfl (by decide) rfl e1 dX7_kindOfAnswer_1 ?_
  refine pm_iload_n hC 1 dX7_kindOfAnswer_4 rfl ?_
  obtain ⟨y2, e3⟩ : ∃ y, V0 9 (a1 : Int).toNat = y := ⟨_, rfl⟩
  have b4 := hV0.get1 9 (a1 : Int).toNat (lo := 0) (hi := 999) (by decide) (show _ < 60 by omega) rfl
  rw [e3] at b4
  refine pm_iaload (len := 60) (v := y2) hC 9 rfl rfl (by decide) ⟨by omega, by omega⟩ (by decide) e3 dX7_kindOfAnswer_5 ?_
  refine pm_bipush (v := 10) hC dX7_kindOfAnswer_6 (by decide) ?_
  refine pm_idiv hC ⟨by omega, by omega, by omega⟩ ⟨by decide, by decide, by decide⟩ dX7_kindOfAnswer_8 ?_
  refine pm_bipush (v := 10) hC dX7_kindOfAnswer_9 (by decide) ?_
  refine pm_irem hC ⟨by omega, by omega, by omega⟩ ⟨by decide, by decide, by decide⟩ dX7_kindOfAnswer_11 ?_
  refine pm_aload_n hC 0 (by decide) dX7_kindOfAnswer_12 rfl ?_
  refine pm_getf (v := 9) hC 4 fl_X7_35 rfl rfl (by decide) rfl e1 dX7_kindOfAnswer_13 ?_
  refine pm_iload_n hC 1 dX7_kindOfAnswer_16 rfl ?_
  refine pm_iaload (len := 60) (v := y2) hC 9 rfl rfl (by decide) ⟨by omega, by omega⟩ (by decide) e3 dX7_kindOfAnswer_17 ?_
  refine pm_bipush (v := 10) hC dX7_kindOfAnswer_18 (by decide) ?_
  refine pm_irem hC ⟨by omega, by omega, by omega⟩ ⟨by decide, by decide, by decide⟩ dX7_kindOfAnswer_20 ?_
  refine pm_aload_n hC 0 (by decide) dX7_kindOfAnswer_21 rfl ?_
  have e5 : V0 4 10 = 12 := hV0.one 4 10 (by decide) (by decide) rfl
  refine pm_getf (v := 12) hC 4 fl_X7_44 rfl rfl (by decide) rfl e5 dX7_kindOfAnswer_22 ?_
  refine pm_iload_n hC 1 dX7_kindOfAnswer_25 rfl ?_
  obtain ⟨y6, e7⟩ : ∃ y, V0 12 (a1 : Int).toNat = y := ⟨_, rfl⟩
  have b8 := hV0.get 12 (a1 : Int).toNat (lo := 0) (hi := 8) (by decide) (show _ < 60 by omega) rfl
  rw [e7] at b8
  refine pm_iaload (len := 60) (v := y6) hC 12 rfl rfl (by decide) ⟨by omega, by omega⟩ (by decide) e7 dX7_kindOfAnswer_26 ?_
  refine pm_callSN (as := [(0, ((y2 / 10) % 10)), (0, (y2 % 10)), (0, y6)]) (st := []) hC (c_X11_kindOfSaid ((y2 / 10) % 10) (y2 % 10) y6 ⟨by omega, by omega⟩ ⟨by omega, by omega⟩ ⟨by omega, by omega⟩) lm_X7_59 ls_X11_kindOfSaid (by decide) (by decide) rfl rfl (Nat.le_of_ble_eq_true rfl) ⟨Nat.le_refl _, Or.inl rfl⟩ dX7_kindOfAnswer_27 ⟨rfl, hV0⟩ (fun r9 V10 hp11 => ?_)
  obtain ⟨y12, rfl, b13, rfl⟩ := hp11
  change pm_J X 30 [(0, (3, 4)), (1, (0, a1))] [(0, y12)] 118 V0
  exact pm_iret hC hR pm_nar0 ⟨y12, rfl, ⟨by omega, by omega⟩, rfl⟩ dX7_kindOfAnswer_30
set_option maxHeartbeats 4000000 in
set_option maxRecDepth 100000 in
theorem c_X11_of_0 (a1 a2 : Int) (h0 : (-2147483648) ≤ a1 ∧ a1 ≤ 2147483647) (h1 : (-2147483648) ≤ a2 ∧ a2 ≤ 2147483647) : pm_K 3 yX11_of cX11_of 3 (some .int) (fun av V => av = [(3, 0), (0, a1), (0, a2)] ∧ pm_ok 0 90 V) (fun _ V r V' => ∃ y, r = some (0, y) ∧ ((-2147483648) ≤ y ∧ y ≤ 999) ∧ V = V') := by
  refine pm_MT.of (by decide) ⟨Nat.le_refl _, by decide⟩ (fun av V h => by rw [h.1]; exact (by decide : pm_words [(3, 0), (0, 0), (0, 0)] ≤ 3)) ?_
  rintro X av V0 hC - hR ⟨rfl, hV0⟩
  change pm_J X 0 [(0, (3, 0)), (1, (0, a1)), (2, (0, a2))] [] 118 V0
  refine pm_aload_n hC 0 (by decide) dX11_of_0 rfl ?_
  have e1 : V0 0 3 = 4 := hV0.one 0 3 (by decide) (by decide) rfl
  refine pm_getf (v := 4) hC 0 fl_X11_24 rfl rfl (by decide) rfl e1 dX11_of_1 ?_
  refine pm_iload_n hC 1 dX11_of_4 rfl ?_
  refine pm_callV (ci := 7) (as := [(0, a1)]) (st := []) hC 4 (c_X7_isAnswer_4 a1 ⟨by omega, by omega⟩) lm_X11_240 li_X7_isAnswer (by decide) (by decide) rfl rfl rfl (by decide) rfl rfl (Nat.le_of_ble_eq_true rfl) ⟨Nat.le_refl _, Or.inl rfl⟩ dX11_of_5 ⟨rfl, hV0⟩ (fun r2 V3 hp4 => ?_)
  obtain ⟨y5, rfl, b6, rfl⟩ := hp4
  change pm_J X 8 [(0, (3, 0)), (1, (0, a1)), (2, (0, a2))] [(0, y5)] 118 V0
  refine pm_if_ne (tgt := 14) hC ⟨by omega, by omega⟩ dX11_of_8 (by decide) (fun c7 => ?_) (fun c7 => ?_)
  · skip
    refine pm_iload_n hC 2 dX11_of_14 rfl ?_
    rcases (show (a2 < 0 ∨ 5 < a2) ∨ a2 = (0 : Int) ∨ a2 = (1 : Int) ∨ a2 = (2 : Int) ∨ a2 = (3 : Int) ∨ a2 = (4 : Int) ∨ a2 = (5 : Int) by omega) with c8 | c8 | c8 | c8 | c8 | c8 | c8
    · skip
      refine pm_tableOut (tgt := 119) hC ⟨by omega, by omega⟩ dX11_of_15 c8 (by decide) ?_
      refine pm_ldc (v := (-2147483648)) hC 3153 dX11_of_119 (by decide +kernel) ?_
      exact pm_iret hC hR pm_nar0 ⟨(-2147483648), rfl, ⟨by omega, by omega⟩, rfl⟩ dX11_of_121
    · skip
      refine pm_tableIn (tgt := 52) (off := 37) hC ⟨by omega, by omega⟩ dX11_of_15 (by omega) (by omega) (by rw [c8]; rfl) (by decide) ?_
      refine pm_aload_n hC 0 (by decide) dX11_of_52 rfl ?_
      refine pm_getf (v := 4) hC 0 fl_X11_24 rfl rfl (by decide) rfl e1 dX11_of_53 ?_
      have e9 : V0 4 7 = 9 := hV0.one 4 7 (by decide) (by decide) rfl
      refine pm_getf (v := 9) hC 4 fl_X11_243 rfl rfl (by decide) rfl e9 dX11_of_56 ?_
      refine pm_iload_n hC 1 dX11_of_59 rfl ?_
      obtain ⟨y10, e11⟩ : ∃ y, V0 9 (a1 : Int).toNat = y := ⟨_, rfl⟩
      have b12 := hV0.get1 9 (a1 : Int).toNat (lo := 0) (hi := 999) (by decide) (show _ < 60 by omega) rfl
      rw [e11] at b12
      refine pm_iaload (len := 60) (v := y10) hC 9 rfl rfl (by decide) ⟨by omega, by omega⟩ (by decide) e11 dX11_of_60 ?_
      exact pm_iret hC hR pm_nar0 ⟨y10, rfl, ⟨by omega, by omega⟩, rfl⟩ dX11_of_61
    · skip
      refine pm_tableIn (tgt := 62) (off := 47) hC ⟨by omega, by omega⟩ dX11_of_15 (by omega) (by omega) (by rw [c8]; rfl) (by decide) ?_
      refine pm_aload_n hC 0 (by decide) dX11_of_62 rfl ?_
      refine pm_getf (v := 4) hC 0 fl_X11_24 rfl rfl (by decide) rfl e1 dX11_of_63 ?_
      have e13 : V0 4 8 = 10 := hV0.one 4 8 (by decide) (by decide) rfl
      refine pm_getf (v := 10) hC 4 fl_X11_246 rfl rfl (by decide) rfl e13 dX11_of_66 ?_
      refine pm_iload_n hC 1 dX11_of_69 rfl ?_
      obtain ⟨y14, e15⟩ : ∃ y, V0 10 (a1 : Int).toNat = y := ⟨_, rfl⟩
      have b16 := hV0.get 10 (a1 : Int).toNat (lo := 0) (hi := 99) (by decide) (show _ < 60 by omega) rfl
      rw [e15] at b16
      refine pm_iaload (len := 60) (v := y14) hC 10 rfl rfl (by decide) ⟨by omega, by omega⟩ (by decide) e15 dX11_of_70 ?_
      exact pm_iret hC hR pm_nar0 ⟨y14, rfl, ⟨by omega, by omega⟩, rfl⟩ dX11_of_71
    · skip
      refine pm_tableIn (tgt := 72) (off := 57) hC ⟨by omega, by omega⟩ dX11_of_15 (by omega) (by omega) (by rw [c8]; rfl) (by decide) ?_
      refine pm_aload_n hC 0 (by decide) dX11_of_72 rfl ?_
      refine pm_getf (v := 4) hC 0 fl_X11_24 rfl rfl (by decide) rfl e1 dX11_of_73 ?_
      have e17 : V0 4 9 = 11 := hV0.one 4 9 (by decide) (by decide) rfl
      refine pm_getf (v := 11) hC 4 fl_X11_249 rfl rfl (by decide) rfl e17 dX11_of_76 ?_
      refine pm_iload_n hC 1 dX11_of_79 rfl ?_
      obtain ⟨y18, e19⟩ : ∃ y, V0 11 (a1 : Int).toNat = y := ⟨_, rfl⟩
      have b20 := hV0.get 11 (a1 : Int).toNat (lo := (-99)) (hi := 99) (by decide) (show _ < 60 by omega) rfl
      rw [e19] at b20
      refine pm_iaload (len := 60) (v := y18) hC 11 rfl rfl (by decide) ⟨by omega, by omega⟩ (by decide) e19 dX11_of_80 ?_
      exact pm_iret hC hR pm_nar0 ⟨y18, rfl, ⟨by omega, by omega⟩, rfl⟩ dX11_of_81
    · skip
      refine pm_tableIn (tgt := 82) (off := 67) hC ⟨by omega, by omega⟩ dX11_of_15 (by omega) (by omega) (by rw [c8]; rfl) (by decide) ?_
      refine pm_aload_n hC 0 (by decide) dX11_of_82 rfl ?_
      refine pm_getf (v := 4) hC 0 fl_X11_24 rfl rfl (by decide) rfl e1 dX11_of_83 ?_
      have e21 : V0 4 10 = 12 := hV0.one 4 10 (by decide) (by decide) rfl
      refine pm_getf (v := 12) hC 4 fl_X11_252 rfl rfl (by decide) rfl e21 dX11_of_86 ?_
      refine pm_iload_n hC 1 dX11_of_89 rfl ?_
      obtain ⟨y22, e23⟩ : ∃ y, V0 12 (a1 : Int).toNat = y := ⟨_, rfl⟩
      have b24 := hV0.get 12 (a1 : Int).toNat (lo := 0) (hi := 8) (by decide) (show _ < 60 by omega) rfl
      rw [e23] at b24
      refine pm_iaload (len := 60) (v := y22) hC 12 rfl rfl (by decide) ⟨by omega, by omega⟩ (by decide) e23 dX11_of_90 ?_
      exact pm_iret hC hR pm_nar0 ⟨y22, rfl, ⟨by omega, by omega⟩, rfl⟩ dX11_of_91
    · skip
      refine pm_tableIn (tgt := 92) (off := 77) hC ⟨by omega, by omega⟩ dX11_of_15 (by omega) (by omega) (by rw [c8]; rfl) (by decide) ?_
      refine pm_aload_n hC 0 (by decide) dX11_of_92 rfl ?_
      refine pm_getf (v := 4) hC 0 fl_X11_24 rfl rfl (by decide) rfl e1 dX11_of_93 ?_
      have e25 : V0 4 11 = 13 := hV0.one 4 11 (by decide) (by decide) rfl
      refine pm_getf (v := 13) hC 4 fl_X11_255 rfl rfl (by decide) rfl e25 dX11_of_96 ?_
      refine pm_iload_n hC 1 dX11_of_99 rfl ?_
      obtain ⟨y26, e27⟩ : ∃ y, V0 13 (a1 : Int).toNat = y := ⟨_, rfl⟩
      have b28 := hV0.get 13 (a1 : Int).toNat (lo := 0) (hi := 1) (by decide) (show _ < 60 by omega) rfl
      rw [e27] at b28
      refine pm_zaload (len := 60) (v := y26) hC 13 rfl rfl (by decide) ⟨by omega, by omega⟩ (by decide) e27 dX11_of_100 ?_
      refine pm_if_eq (tgt := 108) hC ⟨by omega, by omega⟩ dX11_of_101 (by decide) (fun c29 => ?_) (fun c29 => ?_)
      · skip
        refine pm_iconst (v := 0) hC dX11_of_108 ?_
        exact pm_iret hC hR pm_nar0 ⟨0, rfl, ⟨by omega, by omega⟩, rfl⟩ dX11_of_109
      · skip
        refine pm_iconst (v := 1) hC dX11_of_104 ?_
        refine pm_goto (tgt := 109) hC dX11_of_105 (by decide) ?_
        exact pm_iret hC hR pm_nar0 ⟨1, rfl, ⟨by omega, by omega⟩, rfl⟩ dX11_of_109
    · skip
      refine pm_tableIn (tgt := 110) (off := 95) hC ⟨by omega, by omega⟩ dX11_of_15 (by omega) (by omega) (by rw [c8]; rfl) (by decide) ?_
      refine pm_aload_n hC 0 (by decide) dX11_of_110 rfl ?_
      refine pm_getf (v := 4) hC 0 fl_X11_24 rfl rfl (by decide) rfl e1 dX11_of_111 ?_
      refine pm_iload_n hC 1 dX11_of_114 rfl ?_
      refine pm_callV (ci := 7) (as := [(0, a1)]) (st := []) hC 4 (c_X7_kindOfAnswer_4 a1 ⟨by omega, by omega⟩) lm_X11_259 li_X7_kindOfAnswer (by decide) (by decide) rfl rfl rfl (by decide) rfl rfl (Nat.le_of_ble_eq_true rfl) ⟨Nat.le_refl _, Or.inl rfl⟩ dX11_of_115 ⟨rfl, hV0⟩ (fun r30 V31 hp32 => ?_)
      obtain ⟨y33, rfl, b34, rfl⟩ := hp32
      change pm_J X 118 [(0, (3, 0)), (1, (0, a1)), (2, (0, a2))] [(0, y33)] 118 V0
      exact pm_iret hC hR pm_nar0 ⟨y33, rfl, ⟨by omega, by omega⟩, rfl⟩ dX11_of_118
  · skip
    refine pm_ldc (v := (-2147483648)) hC 3153 dX11_of_11 (by decide +kernel) ?_
    exact pm_iret hC hR pm_nar0 ⟨(-2147483648), rfl, ⟨by omega, by omega⟩, rfl⟩ dX11_of_13
set_option maxHeartbeats 4000000 in
set_option maxRecDepth 100000 in
theorem c_X11_isPersonOrAll_0 (a1 : Int) (h0 : (-2147483648) ≤ a1 ∧ a1 ≤ 2147483647) : pm_K 2 yX11_isPersonOrAll cX11_isPersonOrAll 2 (some .boolean) (fun av V => av = [(3, 0), (0, a1)] ∧ pm_ok 0 90 V) (fun _ V r V' => ∃ y, r = some (0, y) ∧ (0 ≤ y ∧ y ≤ 1 ∧ (y = 1 → ((-1) ≤ a1 ∧ a1 ≤ 9))) ∧ V = V') := by
  refine pm_MT.of (by decide) ⟨Nat.le_refl _, by decide⟩ (fun av V h => by rw [h.1]; exact (by decide : pm_words [(3, 0), (0, 0)] ≤ 2)) ?_
  rintro X av V0 hC - hR ⟨rfl, hV0⟩
  change pm_J X 0 [(0, (3, 0)), (1, (0, a1))] [] 118 V0
  refine pm_iload_n hC 1 dX11_isPersonOrAll_0 rfl ?_
  refine pm_iconst (v := (-1)) hC dX11_isPersonOrAll_1 ?_
  refine pm_icmp_eq (tgt := 13) hC ⟨by omega, by omega⟩ ⟨by decide, by decide⟩ dX11_isPersonOrAll_2 (by decide) (fun c1 => ?_) (fun c1 => ?_)
  · skip
    refine pm_iconst (v := 1) hC dX11_isPersonOrAll_13 ?_
    refine pm_goto (tgt := 18) hC dX11_isPersonOrAll_14 (by decide) ?_
    exact pm_iret hC hR (pm_narZ (by omega)) ⟨1, rfl, ⟨by omega, by omega, by omega⟩, rfl⟩ dX11_isPersonOrAll_18
  · skip
    refine pm_aload_n hC 0 (by decide) dX11_isPersonOrAll_5 rfl ?_
    refine pm_iload_n hC 1 dX11_isPersonOrAll_6 rfl ?_
    refine pm_callV (ci := 11) (as := [(0, a1)]) (st := []) hC 0 (c_X11_isPerson_0 a1 ⟨by omega, by omega⟩) lm_X11_183 li_X11_isPerson (by decide) (by decide) rfl rfl rfl (by decide) rfl rfl (Nat.le_of_ble_eq_true rfl) ⟨Nat.le_refl _, Or.inl rfl⟩ dX11_isPersonOrAll_7 ⟨rfl, hV0⟩ (fun r2 V3 hp4 => ?_)
    obtain ⟨y5, rfl, b6, rfl⟩ := hp4
    change pm_J X 10 [(0, (3, 0)), (1, (0, a1))] [(0, y5)] 118 V0
    refine pm_if_eq (tgt := 17) hC ⟨by omega, by omega⟩ dX11_isPersonOrAll_10 (by decide) (fun c7 => ?_) (fun c7 => ?_)
    · skip
      refine pm_iconst (v := 0) hC dX11_isPersonOrAll_17 ?_
      exact pm_iret hC hR (pm_narZ (by omega)) ⟨0, rfl, ⟨by omega, by omega, by omega⟩, rfl⟩ dX11_isPersonOrAll_18
    · skip
      refine pm_iconst (v := 1) hC dX11_isPersonOrAll_13 ?_
      refine pm_goto (tgt := 18) hC dX11_isPersonOrAll_14 (by decide) ?_
      exact pm_iret hC hR (pm_narZ (by omega)) ⟨1, rfl, ⟨by omega, by omega, by omega⟩, rfl⟩ dX11_isPersonOrAll_18
set_option maxHeartbeats 4000000 in
set_option maxRecDepth 100000 in
theorem c_X0_add_84 (a1 a2 : Int) (h0 : (-9223372036854775808) ≤ a1 ∧ a1 ≤ 9223372036854775807) (h1 : (-9223372036854775808) ≤ a2 ∧ a2 ≤ 9223372036854775807) : pm_K 1 yX0_add cX0_add 5 none (fun av V => av = [(3, 84), (1, a1), (1, a2)] ∧ pm_ok 0 90 V) (fun _ V r V' => r = none ∧ pm_ok 0 90 V' ∧ pm_fr [84, 85, 86] V V') := by
  refine pm_MT.of (by decide) ⟨Nat.le_refl _, by decide⟩ (fun av V h => by rw [h.1]; exact (by decide : pm_words [(3, 0), (1, 0), (1, 0)] ≤ 5)) ?_
  rintro X av V0 hC - hR ⟨rfl, hV0⟩
  change pm_J X 0 [(0, (3, 84)), (1, (1, a1)), (3, (1, a2))] [] 118 V0
  refine pm_aload_n hC 0 (by decide) dX0_add_0 rfl ?_
  obtain ⟨y1, e2⟩ : ∃ y, V0 84 0 = y := ⟨_, rfl⟩
  have b3 := hV0.get 84 0 (lo := 0) (hi := 60) (by decide) (by decide) rfl
  rw [e2] at b3
  refine pm_getf (v := y1) hC 84 fl_X0_9 rfl rfl (by decide) rfl e2 dX0_add_1 ?_
  refine pm_bipush (v := 60) hC dX0_add_4 (by decide) ?_
  refine pm_icmp_ge (tgt := 39) hC ⟨by omega, by omega⟩ ⟨by decide, by decide⟩ dX0_add_6 (by decide) (fun c4 => ?_) (fun c4 => ?_)
  · skip
    exact pm_vret hC hR ⟨rfl, hV0, (pm_fr.rf (ws := [84, 85, 86]) (V := V0))⟩ dX0_add_39
  · skip
    refine pm_aload_n hC 0 (by decide) dX0_add_9 rfl ?_
    have e5 : V0 84 1 = 85 := hV0.one 84 1 (by decide) (by decide) rfl
    refine pm_getf (v := 85) hC 84 fl_X0_15 rfl rfl (by decide) rfl e5 dX0_add_10 ?_
    refine pm_aload_n hC 0 (by decide) dX0_add_13 rfl ?_
    refine pm_getf (v := y1) hC 84 fl_X0_9 rfl rfl (by decide) rfl e2 dX0_add_14 ?_
    refine pm_lload_n hC 1 dX0_add_17 rfl ?_
    refine pm_lastore (len := 60) hC 85 rfl rfl (by decide) ⟨by omega, by omega⟩ (by decide) dX0_add_18 ?_
    refine pm_aload_n hC 0 (by decide) dX0_add_19 rfl ?_
    have e6 : V0 84 2 = 86 := hV0.one 84 2 (by decide) (by decide) rfl
    refine pm_getf (v := 86) hC 84 fl_X0_19 rfl rfl (by decide) rfl e6 dX0_add_20 ?_
    refine pm_aload_n hC 0 (by decide) dX0_add_23 rfl ?_
    refine pm_getf (v := y1) hC 84 fl_X0_9 rfl rfl (by decide) rfl e2 dX0_add_24 ?_
    refine pm_lload_n hC 2 dX0_add_27 rfl ?_
    refine pm_lastore (len := 60) hC 86 rfl rfl (by decide) ⟨by omega, by omega⟩ (by decide) dX0_add_28 ?_
    refine pm_aload_n hC 0 (by decide) dX0_add_29 rfl ?_
    refine pm_dup hC rfl dX0_add_30 ?_
    refine pm_getf (v := y1) hC 84 fl_X0_9 rfl rfl (by decide) rfl e2 dX0_add_31 ?_
    refine pm_iconst (v := 1) hC dX0_add_34 ?_
    refine pm_iadd hC dX0_add_35 ?_
    refine pm_putf hC 84 fl_X0_9 rfl rfl rfl (by decide) rfl trivial dX0_add_36 ?_
    exact pm_vret hC hR ⟨rfl, (((hV0.put 85 (y1 : Int).toNat (x := a1) (lo := (-9223372036854775808)) (hi := 9223372036854775807) rfl ⟨by omega, by omega⟩).put 86 (y1 : Int).toNat (x := a2) (lo := (-9223372036854775808)) (hi := 9223372036854775807) rfl ⟨by omega, by omega⟩).put 84 0 (x := (y1 + 1)) (lo := 0) (hi := 60) rfl ⟨by omega, by omega⟩), ((((pm_fr.rf (ws := [84, 85, 86]) (V := V0)).up 85 (y1 : Int).toNat a1 rfl).up 86 (y1 : Int).toNat a2 rfl).up 84 0 (y1 + 1) rfl)⟩ dX0_add_39
set_option maxHeartbeats 4000000 in
set_option maxRecDepth 100000 in
theorem c_X11_gather_0_84 (a1 a2 : Int) (h0 : (-2147483648) ≤ a1 ∧ a1 ≤ 2147483647) (h1 : (-2147483648) ≤ a2 ∧ a2 ≤ 2147483647) : pm_K 5 yX11_gather cX11_gather 5 none (fun av V => av = [(3, 0), (3, 84), (0, a1), (0, a2)] ∧ pm_ok 0 90 V) (fun _ V r V' => r = none ∧ pm_ok 0 90 V' ∧ pm_fr [73, 74, 75, 76, 77, 84, 85, 86] V V') := by
  refine pm_MT.of (by decide) ⟨Nat.le_refl _, by decide⟩ (fun av V h => by rw [h.1]; exact (by decide : pm_words [(3, 0), (3, 0), (0, 0), (0, 0)] ≤ 5)) ?_
  rintro X av V0 hC - hR ⟨rfl, hV0⟩
  change pm_J X 0 [(0, (3, 0)), (1, (3, 84)), (2, (0, a1)), (3, (0, a2))] [] 118 V0
  refine pm_aload_n hC 1 (by decide) dX11_gather_0 rfl ?_
  refine pm_iconst (v := 0) hC dX11_gather_1 ?_
  refine pm_putf hC 84 fl_X11_371 rfl rfl rfl (by decide) rfl trivial dX11_gather_2 ?_
  refine pm_iconst (v := 0) hC dX11_gather_5 ?_
  refine pm_istore (lv' := [(4, (0, 0)), (0, (3, 0)), (1, (3, 84)), (2, (0, a1)), (3, (0, a2))]) hC dX11_gather_6 (by decide) rfl ?_
  have hV3 := (hV0.put 84 0 (x := 0) (lo := 0) (hi := 60) rfl ⟨by decide, by decide⟩)
  have hF4 := ((pm_fr.rf (ws := [73, 74, 75, 76, 77, 84, 85, 86]) (V := V0)).up 84 0 0 rfl)
  obtain ⟨V1, hv2⟩ : ∃ V, V = (pm_up V0 84 0 0) := ⟨_, rfl⟩
  rw [← hv2] at hV3 hF4
  rw [← hv2]
  have e5 : V1 84 0 = 0 := by rw [hv2]; rfl
  have L11 : ∀ (N13 : Nat) (x6 : Int) (V8 : pm_M), (0 ≤ x6 ∧ x6 ≤ 60) → pm_ok 0 90 V8 → pm_fr [73, 74, 75, 76, 77, 84, 85, 86] V0 V8 → (Int.toNat (60 - x6)) = N13 → pm_J X 8 [(0, (3, 0)), (1, (3, 84)), (2, (0, a1)), (3, (0, a2)), (4, (0, x6))] [] 118 V8 := by
    intro N13
    induction N13 using Nat.strongRecOn with
    | _ N13 ih14 =>
    intro x6 V8 b7 hV9 hF10 hm12
    refine pm_iload hC 4 dX11_gather_8 rfl ?_
    refine pm_aload_n hC 0 (by decide) dX11_gather_10 rfl ?_
    have e15 : V8 0 3 = 4 := hV9.one 0 3 (by decide) (by decide) rfl
    refine pm_getf (v := 4) hC 0 fl_X11_24 rfl rfl (by decide) rfl e15 dX11_gather_11 ?_
    obtain ⟨y16, e17⟩ : ∃ y, V8 4 6 = y := ⟨_, rfl⟩
    have b18 := hV9.get 4 6 (lo := 0) (hi := 60) (by decide) (by decide) rfl
    rw [e17] at b18
    refine pm_getf (v := y16) hC 4 fl_X11_162 rfl rfl (by decide) rfl e17 dX11_gather_14 ?_
    refine pm_icmp_ge (tgt := 119) hC ⟨by omega, by omega⟩ ⟨by omega, by omega⟩ dX11_gather_17 (by decide) (fun c19 => ?_) (fun c19 => ?_)
    · skip
      exact pm_vret hC hR ⟨rfl, hV9, hF10⟩ dX11_gather_119
    · skip
      refine pm_iload_n hC 3 dX11_gather_20 rfl ?_
      refine pm_iconst (v := (-1)) hC dX11_gather_21 ?_
      refine pm_icmp_eq (tgt := 42) hC ⟨by omega, by omega⟩ ⟨by decide, by decide⟩ dX11_gather_22 (by decide) (fun c20 => ?_) (fun c20 => ?_)
      · skip
        refine pm_aload_n hC 0 (by decide) dX11_gather_42 rfl ?_
        refine pm_aload_n hC 0 (by decide) dX11_gather_43 rfl ?_
        refine pm_getf (v := 4) hC 0 fl_X11_24 rfl rfl (by decide) rfl e15 dX11_gather_44 ?_
        have e21 : V8 4 7 = 9 := hV9.one 4 7 (by decide) (by decide) rfl
        refine pm_getf (v := 9) hC 4 fl_X11_243 rfl rfl (by decide) rfl e21 dX11_gather_47 ?_
        refine pm_iload hC 4 dX11_gather_50 rfl ?_
        obtain ⟨y22, e23⟩ : ∃ y, V8 9 (x6 : Int).toNat = y := ⟨_, rfl⟩
        have b24 := hV9.get1 9 (x6 : Int).toNat (lo := 0) (hi := 999) (by decide) (show _ < 60 by omega) rfl
        rw [e23] at b24
        refine pm_iaload (len := 60) (v := y22) hC 9 rfl rfl (by decide) ⟨by omega, by omega⟩ (by decide) e23 dX11_gather_52 ?_
        refine pm_aload_n hC 0 (by decide) dX11_gather_53 rfl ?_
        refine pm_getf (v := 4) hC 0 fl_X11_24 rfl rfl (by decide) rfl e15 dX11_gather_54 ?_
        have e25 : V8 4 8 = 10 := hV9.one 4 8 (by decide) (by decide) rfl
        refine pm_getf (v := 10) hC 4 fl_X11_246 rfl rfl (by decide) rfl e25 dX11_gather_57 ?_
        refine pm_iload hC 4 dX11_gather_60 rfl ?_
        obtain ⟨y26, e27⟩ : ∃ y, V8 10 (x6 : Int).toNat = y := ⟨_, rfl⟩
        have b28 := hV9.get 10 (x6 : Int).toNat (lo := 0) (hi := 99) (by decide) (show _ < 60 by omega) rfl
        rw [e27] at b28
        refine pm_iaload (len := 60) (v := y26) hC 10 rfl rfl (by decide) ⟨by omega, by omega⟩ (by decide) e27 dX11_gather_62 ?_
        refine pm_aload_n hC 0 (by decide) dX11_gather_63 rfl ?_
        refine pm_getf (v := 4) hC 0 fl_X11_24 rfl rfl (by decide) rfl e15 dX11_gather_64 ?_
        have e29 : V8 4 9 = 11 := hV9.one 4 9 (by decide) (by decide) rfl
        refine pm_getf (v := 11) hC 4 fl_X11_249 rfl rfl (by decide) rfl e29 dX11_gather_67 ?_
        refine pm_iload hC 4 dX11_gather_70 rfl ?_
        obtain ⟨y30, e31⟩ : ∃ y, V8 11 (x6 : Int).toNat = y := ⟨_, rfl⟩
        have b32 := hV9.get 11 (x6 : Int).toNat (lo := (-99)) (hi := 99) (by decide) (show _ < 60 by omega) rfl
        rw [e31] at b32
        refine pm_iaload (len := 60) (v := y30) hC 11 rfl rfl (by decide) ⟨by omega, by omega⟩ (by decide) e31 dX11_gather_72 ?_
        refine pm_callV (ci := 11) (as := [(0, y22), (0, y26), (0, y30)]) (st := []) hC 0 (c_X11_pose_0 y22 y26 y30 ⟨by omega, by omega⟩ ⟨by omega, by omega⟩ ⟨by omega, by omega⟩ (by omega)) lm_X11_229 li_X11_pose (by decide) (by decide) rfl rfl rfl (by decide) rfl rfl (Nat.le_of_ble_eq_true rfl) ⟨Nat.le_refl _, Or.inl rfl⟩ dX11_gather_73 ⟨rfl, hV9⟩ (fun r33 V34 hp35 => ?_)
        obtain ⟨rfl, hV36, hF37⟩ := hp35
        change pm_J X 76 [(0, (3, 0)), (1, (3, 84)), (2, (0, a1)), (3, (0, a2)), (4, (0, x6))] [] 118 V34
        have hF38 := pm_fr.tr hF10 hF37 (by decide)
        have e39 : V34 0 3 = 4 := by rw [hF37 0 (by decide)]; exact e15
        have e40 : V34 4 6 = y16 := by rw [hF37 4 (by decide)]; exact e17
        have e41 : V34 4 7 = 9 := by rw [hF37 4 (by decide)]; exact e21
        have e42 : V34 4 8 = 10 := by rw [hF37 4 (by decide)]; exact e25
        have e43 : V34 4 9 = 11 := by rw [hF37 4 (by decide)]; exact e29
        refine pm_aload_n hC 0 (by decide) dX11_gather_76 rfl ?_
        have e44 : V34 0 5 = 73 := hV36.one 0 5 (by decide) (by decide) rfl
        refine pm_getf (v := 73) hC 0 fl_X11_75 rfl rfl (by decide) rfl e44 dX11_gather_77 ?_
        refine pm_iload_n hC 2 dX11_gather_80 rfl ?_
        refine pm_callV (ci := 10) (as := [(0, a1)]) (st := []) hC 73 (c_X10_weigh_73 a1 ⟨by omega, by omega⟩) lm_X11_294 li_X10_weigh (by decide) (by decide) rfl rfl rfl (by decide) rfl rfl (Nat.le_of_ble_eq_true rfl) ⟨Nat.le_refl _, Or.inl rfl⟩ dX11_gather_81 ⟨rfl, hV36⟩ (fun r45 V46 hp47 => ?_)
        obtain ⟨rfl, hV48, hF49⟩ := hp47
        change pm_J X 84 [(0, (3, 0)), (1, (3, 84)), (2, (0, a1)), (3, (0, a2)), (4, (0, x6))] [] 118 V46
        have hF50 := pm_fr.tr hF38 hF49 (by decide)
        have e51 : V46 0 3 = 4 := by rw [hF49 0 (by decide)]; exact e39
        have e52 : V46 4 6 = y16 := by rw [hF49 4 (by decide)]; exact e40
        have e53 : V46 4 7 = 9 := by rw [hF49 4 (by decide)]; exact e41
        have e54 : V46 4 8 = 10 := by rw [hF49 4 (by decide)]; exact e42
        have e55 : V46 4 9 = 11 := by rw [hF49 4 (by decide)]; exact e43
        have e56 : V46 0 5 = 73 := by rw [hF49 0 (by decide)]; exact e44
        refine pm_aload_n hC 1 (by decide) dX11_gather_84 rfl ?_
        refine pm_aload_n hC 0 (by decide) dX11_gather_85 rfl ?_
        refine pm_getf (v := 73) hC 0 fl_X11_75 rfl rfl (by decide) rfl e56 dX11_gather_86 ?_
        rcases hV48.get2 73 13 (lo := 76) (hi := 77) (by decide) (by decide) rfl with e57 | e57
        · skip
          refine pm_getf (v := 76) hC 73 fl_X11_208 rfl rfl (by decide) rfl e57 dX11_gather_89 ?_
          refine pm_aload_n hC 0 (by decide) dX11_gather_92 rfl ?_
          refine pm_getf (v := 4) hC 0 fl_X11_24 rfl rfl (by decide) rfl e51 dX11_gather_93 ?_
          have e58 : V46 4 10 = 12 := hV48.one 4 10 (by decide) (by decide) rfl
          refine pm_getf (v := 12) hC 4 fl_X11_252 rfl rfl (by decide) rfl e58 dX11_gather_96 ?_
          refine pm_iload hC 4 dX11_gather_99 rfl ?_
          obtain ⟨y59, e60⟩ : ∃ y, V46 12 (x6 : Int).toNat = y := ⟨_, rfl⟩
          have b61 := hV48.get 12 (x6 : Int).toNat (lo := 0) (hi := 8) (by decide) (show _ < 60 by omega) rfl
          rw [e60] at b61
          refine pm_iaload (len := 60) (v := y59) hC 12 rfl rfl (by decide) ⟨by omega, by omega⟩ (by decide) e60 dX11_gather_101 ?_
          obtain ⟨y62, e63⟩ : ∃ y, V46 76 (y59 : Int).toNat = y := ⟨_, rfl⟩
          have b64 := hV48.get 76 (y59 : Int).toNat (lo := (-9223372036854775808)) (hi := 9223372036854775807) (by decide) (show _ < 9 by omega) rfl
          rw [e63] at b64
          refine pm_laload (len := 9) (v := y62) hC 76 rfl rfl (by decide) ⟨by omega, by omega⟩ (by decide) e63 dX11_gather_102 ?_
          refine pm_aload_n hC 0 (by decide) dX11_gather_103 rfl ?_
          refine pm_getf (v := 73) hC 0 fl_X11_75 rfl rfl (by decide) rfl e56 dX11_gather_104 ?_
          obtain ⟨y65, e66⟩ : ∃ y, V46 73 14 = y := ⟨_, rfl⟩
          have b67 := hV48.get 73 14 (lo := (-9223372036854775808)) (hi := 9223372036854775807) (by decide) (by decide) rfl
          rw [e66] at b67
          refine pm_getf (v := y65) hC 73 fl_X11_205 rfl rfl (by decide) rfl e66 dX11_gather_107 ?_
          refine pm_callV (ci := 0) (as := [(1, y62), (1, y65)]) (st := []) hC 84 (c_X0_add_84 y62 y65 ⟨by omega, by omega⟩ ⟨by omega, by omega⟩) lm_X11_374 li_X0_add (by decide) (by decide) rfl rfl rfl (by decide) rfl rfl (Nat.le_of_ble_eq_true rfl) ⟨Nat.le_refl _, Or.inl rfl⟩ dX11_gather_110 ⟨rfl, hV48⟩ (fun r68 V69 hp70 => ?_)
          obtain ⟨rfl, hV71, hF72⟩ := hp70
          change pm_J X 113 [(0, (3, 0)), (1, (3, 84)), (2, (0, a1)), (3, (0, a2)), (4, (0, x6))] [] 118 V69
          have hF73 := pm_fr.tr hF50 hF72 (by decide)
          have e74 : V69 0 3 = 4 := by rw [hF72 0 (by decide)]; exact e51
          have e75 : V69 4 6 = y16 := by rw [hF72 4 (by decide)]; exact e52
          have e76 : V69 4 7 = 9 := by rw [hF72 4 (by decide)]; exact e53
          have e77 : V69 4 8 = 10 := by rw [hF72 4 (by decide)]; exact e54
          have e78 : V69 4 9 = 11 := by rw [hF72 4 (by decide)]; exact e55
          have e79 : V69 0 5 = 73 := by rw [hF72 0 (by decide)]; exact e56
          have e80 : V69 73 13 = 76 := by rw [hF72 73 (by decide)]; exact e57
          have e81 : V69 4 10 = 12 := by rw [hF72 4 (by decide)]; exact e58
          have e82 : V69 73 14 = y65 := by rw [hF72 73 (by decide)]; exact e66
          obtain ⟨x83, ei84⟩ : ∃ y : Int, x6 + 1 = y := ⟨_, rfl⟩
          refine pm_iinc (y := x83) (lv' := [(4, (0, x83)), (0, (3, 0)), (1, (3, 84)), (2, (0, a1)), (3, (0, a2))]) hC 4 dX11_gather_113 (by decide) rfl ei84 rfl ?_
          refine pm_goto (tgt := 8) hC dX11_gather_116 (by decide) ?_
          refine pm_lvsub [1, 2, 3, 4, 0] (lv' := [(0, (3, 0)), (1, (3, 84)), (2, (0, a1)), (3, (0, a2)), (4, (0, x83))]) rfl ?_
          exact ih14 _ (by omega) x83 V69 ⟨by omega, by omega⟩ hV71 hF73 rfl
        · skip
          refine pm_getf (v := 77) hC 73 fl_X11_208 rfl rfl (by decide) rfl e57 dX11_gather_89 ?_
          refine pm_aload_n hC 0 (by decide) dX11_gather_92 rfl ?_
          refine pm_getf (v := 4) hC 0 fl_X11_24 rfl rfl (by decide) rfl e51 dX11_gather_93 ?_
          have e85 : V46 4 10 = 12 := hV48.one 4 10 (by decide) (by decide) rfl
          refine pm_getf (v := 12) hC 4 fl_X11_252 rfl rfl (by decide) rfl e85 dX11_gather_96 ?_
          refine pm_iload hC 4 dX11_gather_99 rfl ?_
          obtain ⟨y86, e87⟩ : ∃ y, V46 12 (x6 : Int).toNat = y := ⟨_, rfl⟩
          have b88 := hV48.get 12 (x6 : Int).toNat (lo := 0) (hi := 8) (by decide) (show _ < 60 by omega) rfl
          rw [e87] at b88
          refine pm_iaload (len := 60) (v := y86) hC 12 rfl rfl (by decide) ⟨by omega, by omega⟩ (by decide) e87 dX11_gather_101 ?_
          obtain ⟨y89, e90⟩ : ∃ y, V46 77 (y86 : Int).toNat = y := ⟨_, rfl⟩
          have b91 := hV48.get 77 (y86 : Int).toNat (lo := (-9223372036854775808)) (hi := 9223372036854775807) (by decide) (show _ < 9 by omega) rfl
          rw [e90] at b91
          refine pm_laload (len := 9) (v := y89) hC 77 rfl rfl (by decide) ⟨by omega, by omega⟩ (by decide) e90 dX11_gather_102 ?_
          refine pm_aload_n hC 0 (by decide) dX11_gather_103 rfl ?_
          refine pm_getf (v := 73) hC 0 fl_X11_75 rfl rfl (by decide) rfl e56 dX11_gather_104 ?_
          obtain ⟨y92, e93⟩ : ∃ y, V46 73 14 = y := ⟨_, rfl⟩
          have b94 := hV48.get 73 14 (lo := (-9223372036854775808)) (hi := 9223372036854775807) (by decide) (by decide) rfl
          rw [e93] at b94
          refine pm_getf (v := y92) hC 73 fl_X11_205 rfl rfl (by decide) rfl e93 dX11_gather_107 ?_
          refine pm_callV (ci := 0) (as := [(1, y89), (1, y92)]) (st := []) hC 84 (c_X0_add_84 y89 y92 ⟨by omega, by omega⟩ ⟨by omega, by omega⟩) lm_X11_374 li_X0_add (by decide) (by decide) rfl rfl rfl (by decide) rfl rfl (Nat.le_of_ble_eq_true rfl) ⟨Nat.le_refl _, Or.inl rfl⟩ dX11_gather_110 ⟨rfl, hV48⟩ (fun r95 V96 hp97 => ?_)
          obtain ⟨rfl, hV98, hF99⟩ := hp97
          change pm_J X 113 [(0, (3, 0)), (1, (3, 84)), (2, (0, a1)), (3, (0, a2)), (4, (0, x6))] [] 118 V96
          have hF100 := pm_fr.tr hF50 hF99 (by decide)
          have e101 : V96 0 3 = 4 := by rw [hF99 0 (by decide)]; exact e51
          have e102 : V96 4 6 = y16 := by rw [hF99 4 (by decide)]; exact e52
          have e103 : V96 4 7 = 9 := by rw [hF99 4 (by decide)]; exact e53
          have e104 : V96 4 8 = 10 := by rw [hF99 4 (by decide)]; exact e54
          have e105 : V96 4 9 = 11 := by rw [hF99 4 (by decide)]; exact e55
          have e106 : V96 0 5 = 73 := by rw [hF99 0 (by decide)]; exact e56
          have e107 : V96 73 13 = 77 := by rw [hF99 73 (by decide)]; exact e57
          have e108 : V96 4 10 = 12 := by rw [hF99 4 (by decide)]; exact e85
          have e109 : V96 73 14 = y92 := by rw [hF99 73 (by decide)]; exact e93
          obtain ⟨x110, ei111⟩ : ∃ y : Int, x6 + 1 = y := ⟨_, rfl⟩
          refine pm_iinc (y := x110) (lv' := [(4, (0, x110)), (0, (3, 0)), (1, (3, 84)), (2, (0, a1)), (3, (0, a2))]) hC 4 dX11_gather_113 (by decide) rfl ei111 rfl ?_
          refine pm_goto (tgt := 8) hC dX11_gather_116 (by decide) ?_
          refine pm_lvsub [1, 2, 3, 4, 0] (lv' := [(0, (3, 0)), (1, (3, 84)), (2, (0, a1)), (3, (0, a2)), (4, (0, x110))]) rfl ?_
          exact ih14 _ (by omega) x110 V96 ⟨by omega, by omega⟩ hV98 hF100 rfl
      · skip
        refine pm_aload_n hC 0 (by decide) dX11_gather_25 rfl ?_
        refine pm_getf (v := 4) hC 0 fl_X11_24 rfl rfl (by decide) rfl e15 dX11_gather_26 ?_
        have e112 : V8 4 7 = 9 := hV9.one 4 7 (by decide) (by decide) rfl
        refine pm_getf (v := 9) hC 4 fl_X11_243 rfl rfl (by decide) rfl e112 dX11_gather_29 ?_
        refine pm_iload hC 4 dX11_gather_32 rfl ?_
        obtain ⟨y113, e114⟩ : ∃ y, V8 9 (x6 : Int).toNat = y := ⟨_, rfl⟩
        have b115 := hV9.get1 9 (x6 : Int).toNat (lo := 0) (hi := 999) (by decide) (show _ < 60 by omega) rfl
        rw [e114] at b115
        refine pm_iaload (len := 60) (v := y113) hC 9 rfl rfl (by decide) ⟨by omega, by omega⟩ (by decide) e114 dX11_gather_34 ?_
        refine pm_bipush (v := 100) hC dX11_gather_35 (by decide) ?_
        refine pm_idiv hC ⟨by omega, by omega, by omega⟩ ⟨by decide, by decide, by decide⟩ dX11_gather_37 ?_
        refine pm_iload_n hC 3 dX11_gather_38 rfl ?_
        refine pm_icmp_ne (tgt := 113) hC ⟨by omega, by omega⟩ ⟨by omega, by omega⟩ dX11_gather_39 (by decide) (fun c116 => ?_) (fun c116 => ?_)
        · skip
          obtain ⟨x117, ei118⟩ : ∃ y : Int, x6 + 1 = y := ⟨_, rfl⟩
          refine pm_iinc (y := x117) (lv' := [(4, (0, x117)), (0, (3, 0)), (1, (3, 84)), (2, (0, a1)), (3, (0, a2))]) hC 4 dX11_gather_113 (by decide) rfl ei118 rfl ?_
          refine pm_goto (tgt := 8) hC dX11_gather_116 (by decide) ?_
          refine pm_lvsub [1, 2, 3, 4, 0] (lv' := [(0, (3, 0)), (1, (3, 84)), (2, (0, a1)), (3, (0, a2)), (4, (0, x117))]) rfl ?_
          exact ih14 _ (by omega) x117 V8 ⟨by omega, by omega⟩ hV9 hF10 rfl
        · skip
          refine pm_aload_n hC 0 (by decide) dX11_gather_42 rfl ?_
          refine pm_aload_n hC 0 (by decide) dX11_gather_43 rfl ?_
          refine pm_getf (v := 4) hC 0 fl_X11_24 rfl rfl (by decide) rfl e15 dX11_gather_44 ?_
          refine pm_getf (v := 9) hC 4 fl_X11_243 rfl rfl (by decide) rfl e112 dX11_gather_47 ?_
          refine pm_iload hC 4 dX11_gather_50 rfl ?_
          refine pm_iaload (len := 60) (v := y113) hC 9 rfl rfl (by decide) ⟨by omega, by omega⟩ (by decide) e114 dX11_gather_52 ?_
          refine pm_aload_n hC 0 (by decide) dX11_gather_53 rfl ?_
          refine pm_getf (v := 4) hC 0 fl_X11_24 rfl rfl (by decide) rfl e15 dX11_gather_54 ?_
          have e119 : V8 4 8 = 10 := hV9.one 4 8 (by decide) (by decide) rfl
          refine pm_getf (v := 10) hC 4 fl_X11_246 rfl rfl (by decide) rfl e119 dX11_gather_57 ?_
          refine pm_iload hC 4 dX11_gather_60 rfl ?_
          obtain ⟨y120, e121⟩ : ∃ y, V8 10 (x6 : Int).toNat = y := ⟨_, rfl⟩
          have b122 := hV9.get 10 (x6 : Int).toNat (lo := 0) (hi := 99) (by decide) (show _ < 60 by omega) rfl
          rw [e121] at b122
          refine pm_iaload (len := 60) (v := y120) hC 10 rfl rfl (by decide) ⟨by omega, by omega⟩ (by decide) e121 dX11_gather_62 ?_
          refine pm_aload_n hC 0 (by decide) dX11_gather_63 rfl ?_
          refine pm_getf (v := 4) hC 0 fl_X11_24 rfl rfl (by decide) rfl e15 dX11_gather_64 ?_
          have e123 : V8 4 9 = 11 := hV9.one 4 9 (by decide) (by decide) rfl
          refine pm_getf (v := 11) hC 4 fl_X11_249 rfl rfl (by decide) rfl e123 dX11_gather_67 ?_
          refine pm_iload hC 4 dX11_gather_70 rfl ?_
          obtain ⟨y124, e125⟩ : ∃ y, V8 11 (x6 : Int).toNat = y := ⟨_, rfl⟩
          have b126 := hV9.get 11 (x6 : Int).toNat (lo := (-99)) (hi := 99) (by decide) (show _ < 60 by omega) rfl
          rw [e125] at b126
          refine pm_iaload (len := 60) (v := y124) hC 11 rfl rfl (by decide) ⟨by omega, by omega⟩ (by decide) e125 dX11_gather_72 ?_
          refine pm_callV (ci := 11) (as := [(0, y113), (0, y120), (0, y124)]) (st := []) hC 0 (c_X11_pose_0 y113 y120 y124 ⟨by omega, by omega⟩ ⟨by omega, by omega⟩ ⟨by omega, by omega⟩ (by omega)) lm_X11_229 li_X11_pose (by decide) (by decide) rfl rfl rfl (by decide) rfl rfl (Nat.le_of_ble_eq_true rfl) ⟨Nat.le_refl _, Or.inl rfl⟩ dX11_gather_73 ⟨rfl, hV9⟩ (fun r127 V128 hp129 => ?_)
          obtain ⟨rfl, hV130, hF131⟩ := hp129
          change pm_J X 76 [(0, (3, 0)), (1, (3, 84)), (2, (0, a1)), (3, (0, a2)), (4, (0, x6))] [] 118 V128
          have hF132 := pm_fr.tr hF10 hF131 (by decide)
          have e133 : V128 0 3 = 4 := by rw [hF131 0 (by decide)]; exact e15
          have e134 : V128 4 6 = y16 := by rw [hF131 4 (by decide)]; exact e17
          have e135 : V128 4 7 = 9 := by rw [hF131 4 (by decide)]; exact e112
          have e136 : V128 4 8 = 10 := by rw [hF131 4 (by decide)]; exact e119
          have e137 : V128 4 9 = 11 := by rw [hF131 4 (by decide)]; exact e123
          refine pm_aload_n hC 0 (by decide) dX11_gather_76 rfl ?_
          have e138 : V128 0 5 = 73 := hV130.one 0 5 (by decide) (by decide) rfl
          refine pm_getf (v := 73) hC 0 fl_X11_75 rfl rfl (by decide) rfl e138 dX11_gather_77 ?_
          refine pm_iload_n hC 2 dX11_gather_80 rfl ?_
          refine pm_callV (ci := 10) (as := [(0, a1)]) (st := []) hC 73 (c_X10_weigh_73 a1 ⟨by omega, by omega⟩) lm_X11_294 li_X10_weigh (by decide) (by decide) rfl rfl rfl (by decide) rfl rfl (Nat.le_of_ble_eq_true rfl) ⟨Nat.le_refl _, Or.inl rfl⟩ dX11_gather_81 ⟨rfl, hV130⟩ (fun r139 V140 hp141 => ?_)
          obtain ⟨rfl, hV142, hF143⟩ := hp141
          change pm_J X 84 [(0, (3, 0)), (1, (3, 84)), (2, (0, a1)), (3, (0, a2)), (4, (0, x6))] [] 118 V140
          have hF144 := pm_fr.tr hF132 hF143 (by decide)
          have e145 : V140 0 3 = 4 := by rw [hF143 0 (by decide)]; exact e133
          have e146 : V140 4 6 = y16 := by rw [hF143 4 (by decide)]; exact e134
          have e147 : V140 4 7 = 9 := by rw [hF143 4 (by decide)]; exact e135
          have e148 : V140 4 8 = 10 := by rw [hF143 4 (by decide)]; exact e136
          have e149 : V140 4 9 = 11 := by rw [hF143 4 (by decide)]; exact e137
          have e150 : V140 0 5 = 73 := by rw [hF143 0 (by decide)]; exact e138
          refine pm_aload_n hC 1 (by decide) dX11_gather_84 rfl ?_
          refine pm_aload_n hC 0 (by decide) dX11_gather_85 rfl ?_
          refine pm_getf (v := 73) hC 0 fl_X11_75 rfl rfl (by decide) rfl e150 dX11_gather_86 ?_
          rcases hV142.get2 73 13 (lo := 76) (hi := 77) (by decide) (by decide) rfl with e151 | e151
          · skip
            refine pm_getf (v := 76) hC 73 fl_X11_208 rfl rfl (by decide) rfl e151 dX11_gather_89 ?_
            refine pm_aload_n hC 0 (by decide) dX11_gather_92 rfl ?_
            refine pm_getf (v := 4) hC 0 fl_X11_24 rfl rfl (by decide) rfl e145 dX11_gather_93 ?_
            have e152 : V140 4 10 = 12 := hV142.one 4 10 (by decide) (by decide) rfl
            refine pm_getf (v := 12) hC 4 fl_X11_252 rfl rfl (by decide) rfl e152 dX11_gather_96 ?_
            refine pm_iload hC 4 dX11_gather_99 rfl ?_
            obtain ⟨y153, e154⟩ : ∃ y, V140 12 (x6 : Int).toNat = y := ⟨_, rfl⟩
            have b155 := hV142.get 12 (x6 : Int).toNat (lo := 0) (hi := 8) (by decide) (show _ < 60 by omega) rfl
            rw [e154] at b155
            refine pm_iaload (len := 60) (v := y153) hC 12 rfl rfl (by decide) ⟨by omega, by omega⟩ (by decide) e154 dX11_gather_101 ?_
            obtain ⟨y156, e157⟩ : ∃ y, V140 76 (y153 : Int).toNat = y := ⟨_, rfl⟩
            have b158 := hV142.get 76 (y153 : Int).toNat (lo := (-9223372036854775808)) (hi := 9223372036854775807) (by decide) (show _ < 9 by omega) rfl
            rw [e157] at b158
            refine pm_laload (len := 9) (v := y156) hC 76 rfl rfl (by decide) ⟨by omega, by omega⟩ (by decide) e157 dX11_gather_102 ?_
            refine pm_aload_n hC 0 (by decide) dX11_gather_103 rfl ?_
            refine pm_getf (v := 73) hC 0 fl_X11_75 rfl rfl (by decide) rfl e150 dX11_gather_104 ?_
            obtain ⟨y159, e160⟩ : ∃ y, V140 73 14 = y := ⟨_, rfl⟩
            have b161 := hV142.get 73 14 (lo := (-9223372036854775808)) (hi := 9223372036854775807) (by decide) (by decide) rfl
            rw [e160] at b161
            refine pm_getf (v := y159) hC 73 fl_X11_205 rfl rfl (by decide) rfl e160 dX11_gather_107 ?_
            refine pm_callV (ci := 0) (as := [(1, y156), (1, y159)]) (st := []) hC 84 (c_X0_add_84 y156 y159 ⟨by omega, by omega⟩ ⟨by omega, by omega⟩) lm_X11_374 li_X0_add (by decide) (by decide) rfl rfl rfl (by decide) rfl rfl (Nat.le_of_ble_eq_true rfl) ⟨Nat.le_refl _, Or.inl rfl⟩ dX11_gather_110 ⟨rfl, hV142⟩ (fun r162 V163 hp164 => ?_)
            obtain ⟨rfl, hV165, hF166⟩ := hp164
            change pm_J X 113 [(0, (3, 0)), (1, (3, 84)), (2, (0, a1)), (3, (0, a2)), (4, (0, x6))] [] 118 V163
            have hF167 := pm_fr.tr hF144 hF166 (by decide)
            have e168 : V163 0 3 = 4 := by rw [hF166 0 (by decide)]; exact e145
            have e169 : V163 4 6 = y16 := by rw [hF166 4 (by decide)]; exact e146
            have e170 : V163 4 7 = 9 := by rw [hF166 4 (by decide)]; exact e147
            have e171 : V163 4 8 = 10 := by rw [hF166 4 (by decide)]; exact e148
            have e172 : V163 4 9 = 11 := by rw [hF166 4 (by decide)]; exact e149
            have e173 : V163 0 5 = 73 := by rw [hF166 0 (by decide)]; exact e150
            have e174 : V163 73 13 = 76 := by rw [hF166 73 (by decide)]; exact e151
            have e175 : V163 4 10 = 12 := by rw [hF166 4 (by decide)]; exact e152
            have e176 : V163 73 14 = y159 := by rw [hF166 73 (by decide)]; exact e160
            obtain ⟨x177, ei178⟩ : ∃ y : Int, x6 + 1 = y := ⟨_, rfl⟩
            refine pm_iinc (y := x177) (lv' := [(4, (0, x177)), (0, (3, 0)), (1, (3, 84)), (2, (0, a1)), (3, (0, a2))]) hC 4 dX11_gather_113 (by decide) rfl ei178 rfl ?_
            refine pm_goto (tgt := 8) hC dX11_gather_116 (by decide) ?_
            refine pm_lvsub [1, 2, 3, 4, 0] (lv' := [(0, (3, 0)), (1, (3, 84)), (2, (0, a1)), (3, (0, a2)), (4, (0, x177))]) rfl ?_
            exact ih14 _ (by omega) x177 V163 ⟨by omega, by omega⟩ hV165 hF167 rfl
          · skip
            refine pm_getf (v := 77) hC 73 fl_X11_208 rfl rfl (by decide) rfl e151 dX11_gather_89 ?_
            refine pm_aload_n hC 0 (by decide) dX11_gather_92 rfl ?_
            refine pm_getf (v := 4) hC 0 fl_X11_24 rfl rfl (by decide) rfl e145 dX11_gather_93 ?_
            have e179 : V140 4 10 = 12 := hV142.one 4 10 (by decide) (by decide) rfl
            refine pm_getf (v := 12) hC 4 fl_X11_252 rfl rfl (by decide) rfl e179 dX11_gather_96 ?_
            refine pm_iload hC 4 dX11_gather_99 rfl ?_
            obtain ⟨y180, e181⟩ : ∃ y, V140 12 (x6 : Int).toNat = y := ⟨_, rfl⟩
            have b182 := hV142.get 12 (x6 : Int).toNat (lo := 0) (hi := 8) (by decide) (show _ < 60 by omega) rfl
            rw [e181] at b182
            refine pm_iaload (len := 60) (v := y180) hC 12 rfl rfl (by decide) ⟨by omega, by omega⟩ (by decide) e181 dX11_gather_101 ?_
            obtain ⟨y183, e184⟩ : ∃ y, V140 77 (y180 : Int).toNat = y := ⟨_, rfl⟩
            have b185 := hV142.get 77 (y180 : Int).toNat (lo := (-9223372036854775808)) (hi := 9223372036854775807) (by decide) (show _ < 9 by omega) rfl
            rw [e184] at b185
            refine pm_laload (len := 9) (v := y183) hC 77 rfl rfl (by decide) ⟨by omega, by omega⟩ (by decide) e184 dX11_gather_102 ?_
            refine pm_aload_n hC 0 (by decide) dX11_gather_103 rfl ?_
            refine pm_getf (v := 73) hC 0 fl_X11_75 rfl rfl (by decide) rfl e150 dX11_gather_104 ?_
            obtain ⟨y186, e187⟩ : ∃ y, V140 73 14 = y := ⟨_, rfl⟩
            have b188 := hV142.get 73 14 (lo := (-9223372036854775808)) (hi := 9223372036854775807) (by decide) (by decide) rfl
            rw [e187] at b188
            refine pm_getf (v := y186) hC 73 fl_X11_205 rfl rfl (by decide) rfl e187 dX11_gather_107 ?_
            refine pm_callV (ci := 0) (as := [(1, y183), (1, y186)]) (st := []) hC 84 (c_X0_add_84 y183 y186 ⟨by omega, by omega⟩ ⟨by omega, by omega⟩) lm_X11_374 li_X0_add (by decide) (by decide) rfl rfl rfl (by decide) rfl rfl (Nat.le_of_ble_eq_true rfl) ⟨Nat.le_refl _, Or.inl rfl⟩ dX11_gather_110 ⟨rfl, hV142⟩ (fun r189 V190 hp191 => ?_)
            obtain ⟨rfl, hV192, hF193⟩ := hp191
            change pm_J X 113 [(0, (3, 0)), (1, (3, 84)), (2, (0, a1)), (3, (0, a2)), (4, (0, x6))] [] 118 V190
            have hF194 := pm_fr.tr hF144 hF193 (by decide)
            have e195 : V190 0 3 = 4 := by rw [hF193 0 (by decide)]; exact e145
            have e196 : V190 4 6 = y16 := by rw [hF193 4 (by decide)]; exact e146
            have e197 : V190 4 7 = 9 := by rw [hF193 4 (by decide)]; exact e147
            have e198 : V190 4 8 = 10 := by rw [hF193 4 (by decide)]; exact e148
            have e199 : V190 4 9 = 11 := by rw [hF193 4 (by decide)]; exact e149
            have e200 : V190 0 5 = 73 := by rw [hF193 0 (by decide)]; exact e150
            have e201 : V190 73 13 = 77 := by rw [hF193 73 (by decide)]; exact e151
            have e202 : V190 4 10 = 12 := by rw [hF193 4 (by decide)]; exact e179
            have e203 : V190 73 14 = y186 := by rw [hF193 73 (by decide)]; exact e187
            obtain ⟨x204, ei205⟩ : ∃ y : Int, x6 + 1 = y := ⟨_, rfl⟩
            refine pm_iinc (y := x204) (lv' := [(4, (0, x204)), (0, (3, 0)), (1, (3, 84)), (2, (0, a1)), (3, (0, a2))]) hC 4 dX11_gather_113 (by decide) rfl ei205 rfl ?_
            refine pm_goto (tgt := 8) hC dX11_gather_116 (by decide) ?_
            refine pm_lvsub [1, 2, 3, 4, 0] (lv' := [(0, (3, 0)), (1, (3, 84)), (2, (0, a1)), (3, (0, a2)), (4, (0, x204))]) rfl ?_
            exact ih14 _ (by omega) x204 V190 ⟨by omega, by omega⟩ hV192 hF194 rfl
  refine pm_lvsub [1, 2, 3, 4, 0] (lv' := [(0, (3, 0)), (1, (3, 84)), (2, (0, a1)), (3, (0, a2)), (4, (0, 0))]) rfl ?_
  exact L11 _ 0 V1 ⟨by decide, by decide⟩ hV3 hF4 rfl
set_option maxHeartbeats 4000000 in
set_option maxRecDepth 100000 in
theorem c_X0_isNever_84  : pm_K 1 yX0_isNever cX0_isNever 2 (some .boolean) (fun av V => av = [(3, 84)] ∧ pm_ok 0 90 V) (fun _ V r V' => ∃ y, r = some (0, y) ∧ (0 ≤ y ∧ y ≤ 1) ∧ V = V') := by
  refine pm_MT.of (by decide) ⟨Nat.le_refl _, by decide⟩ (fun av V h => by rw [h.1]; exact (by decide : pm_words [(3, 0)] ≤ 2)) ?_
  rintro X av V0 hC - hR ⟨rfl, hV0⟩
  change pm_J X 0 [(0, (3, 84))] [] 118 V0
  refine pm_iconst (v := 0) hC dX0_isNever_0 ?_
  refine pm_istore_n (lv' := [(1, (0, 0)), (0, (3, 84))]) hC dX0_isNever_1 (by decide) rfl ?_
  have L3 : ∀ (N5 : Nat) (x1 : Int), (0 ≤ x1 ∧ x1 ≤ 60) → (Int.toNat (60 - x1)) = N5 → pm_J X 2 [(0, (3, 84)), (1, (0, x1))] [] 118 V0 := by
    intro N5
    induction N5 using Nat.strongRecOn with
    | _ N5 ih6 =>
    intro x1 b2 hm4
    refine pm_iload_n hC 1 dX0_isNever_2 rfl ?_
    refine pm_aload_n hC 0 (by decide) dX0_isNever_3 rfl ?_
    obtain ⟨y7, e8⟩ : ∃ y, V0 84 0 = y := ⟨_, rfl⟩
    have b9 := hV0.get 84 0 (lo := 0) (hi := 60) (by decide) (by decide) rfl
    rw [e8] at b9
    refine pm_getf (v := y7) hC 84 fl_X0_9 rfl rfl (by decide) rfl e8 dX0_isNever_4 ?_
    refine pm_icmp_ge (tgt := 29) hC ⟨by omega, by omega⟩ ⟨by omega, by omega⟩ dX0_isNever_7 (by decide) (fun c10 => ?_) (fun c10 => ?_)
    · skip
      refine pm_iconst (v := 0) hC dX0_isNever_29 ?_
      exact pm_iret hC hR (pm_narZ (by omega)) ⟨0, rfl, ⟨by omega, by omega⟩, rfl⟩ dX0_isNever_30
    · skip
      refine pm_aload_n hC 0 (by decide) dX0_isNever_10 rfl ?_
      have e11 : V0 84 1 = 85 := hV0.one 84 1 (by decide) (by decide) rfl
      refine pm_getf (v := 85) hC 84 fl_X0_15 rfl rfl (by decide) rfl e11 dX0_isNever_11 ?_
      refine pm_iload_n hC 1 dX0_isNever_14 rfl ?_
      obtain ⟨y12, e13⟩ : ∃ y, V0 85 (x1 : Int).toNat = y := ⟨_, rfl⟩
      have b14 := hV0.get 85 (x1 : Int).toNat (lo := (-9223372036854775808)) (hi := 9223372036854775807) (by decide) (show _ < 60 by omega) rfl
      rw [e13] at b14
      refine pm_laload (len := 60) (v := y12) hC 85 rfl rfl (by decide) ⟨by omega, by omega⟩ (by decide) e13 dX0_isNever_15 ?_
      refine pm_lconst (x := 0) hC dX0_isNever_16 rfl ?_
      refine pm_lcmp hC ⟨by omega, by omega⟩ ⟨by decide, by decide⟩ dX0_isNever_17 (fun y15 b16 => ?_)
      refine pm_if_gt (tgt := 23) hC ⟨by omega, by omega⟩ dX0_isNever_18 (by decide) (fun c17 => ?_) (fun c17 => ?_)
      · skip
        obtain ⟨x18, ei19⟩ : ∃ y : Int, x1 + 1 = y := ⟨_, rfl⟩
        refine pm_iinc (y := x18) (lv' := [(1, (0, x18)), (0, (3, 84))]) hC 1 dX0_isNever_23 (by decide) rfl ei19 rfl ?_
        refine pm_goto (tgt := 2) hC dX0_isNever_26 (by decide) ?_
        refine pm_lvsub [1, 0] (lv' := [(0, (3, 84)), (1, (0, x18))]) rfl ?_
        exact ih6 _ (by omega) x18 ⟨by omega, by omega⟩ rfl
      · skip
        refine pm_iconst (v := 1) hC dX0_isNever_21 ?_
        exact pm_iret hC hR (pm_narZ (by omega)) ⟨1, rfl, ⟨by omega, by omega⟩, rfl⟩ dX0_isNever_22
  refine pm_lvsub [1, 0] (lv' := [(0, (3, 84)), (1, (0, 0))]) rfl ?_
  exact L3 _ 0 ⟨by decide, by decide⟩ rfl
set_option maxHeartbeats 4000000 in
set_option maxRecDepth 100000 in
theorem c_X4_factorOf_84_84 (a1 : Int) (h0 : 0 ≤ a1 ∧ a1 ≤ 119) : pm_K 1 yX4_factorOf cX4_factorOf 6 (some .long) (fun av V => av = [(3, 84), (3, 84), (0, a1)] ∧ pm_ok 0 90 V) (fun _ V r V' => ∃ y, r = some (1, y) ∧ (1 ≤ y ∧ y ≤ 9223372036854775807) ∧ V = V') := by
  refine pm_MT.of (by decide) ⟨Nat.le_refl _, by decide⟩ (fun av V h => by rw [h.1]; exact (by decide : pm_words [(3, 0), (3, 0), (0, 0)] ≤ 6)) ?_
  rintro X av V0 hC - hR ⟨rfl, hV0⟩
  change pm_J X 0 [(0, (3, 84)), (1, (3, 84)), (2, (0, a1))] [] 118 V0
  refine pm_iload_n hC 2 dX4_factorOf_0 rfl ?_
  refine pm_iconst (v := 2) hC dX4_factorOf_1 ?_
  refine pm_idiv hC ⟨by omega, by omega, by omega⟩ ⟨by decide, by decide, by decide⟩ dX4_factorOf_2 ?_
  refine pm_istore_n (lv' := [(3, (0, (a1 / 2))), (0, (3, 84)), (1, (3, 84)), (2, (0, a1))]) hC dX4_factorOf_3 (by decide) rfl ?_
  refine pm_iload_n hC 3 dX4_factorOf_4 rfl ?_
  refine pm_iconst (v := 2) hC dX4_factorOf_5 ?_
  refine pm_irem hC ⟨by omega, by omega, by omega⟩ ⟨by decide, by decide, by decide⟩ dX4_factorOf_6 ?_
  refine pm_if_ne (tgt := 19) hC ⟨by omega, by omega⟩ dX4_factorOf_7 (by decide) (fun c1 => ?_) (fun c1 => ?_)
  · skip
    refine pm_aload_n hC 2 (by decide) dX4_factorOf_19 rfl ?_
    have e2 : V0 84 2 = 86 := hV0.one 84 2 (by decide) (by decide) rfl
    refine pm_getf (v := 86) hC 84 fl_X4_55 rfl rfl (by decide) rfl e2 dX4_factorOf_20 ?_
    refine pm_iload_n hC 0 dX4_factorOf_23 rfl ?_
    obtain ⟨y3, e4⟩ : ∃ y, V0 86 ((a1 / 2) : Int).toNat = y := ⟨_, rfl⟩
    have b5 := hV0.get 86 ((a1 / 2) : Int).toNat (lo := (-9223372036854775808)) (hi := 9223372036854775807) (by decide) (show _ < 60 by omega) rfl
    rw [e4] at b5
    refine pm_laload (len := 60) (v := y3) hC 86 rfl rfl (by decide) ⟨by omega, by omega⟩ (by decide) e4 dX4_factorOf_24 ?_
    refine pm_lstore (lv' := [(4, (1, y3)), (3, (0, (a1 / 2))), (0, (3, 84)), (1, (3, 84)), (2, (0, a1))]) hC dX4_factorOf_25 (by decide) rfl ?_
    refine pm_lconst (x := 1) hC dX4_factorOf_27 rfl ?_
    refine pm_lload hC 0 dX4_factorOf_28 rfl ?_
    refine pm_mmaxL hC 4168 4169 1018 4170 ⟨by decide, by decide⟩ ⟨by omega, by omega⟩ (by decide) wL_X4_58 wS_mmaxL wI_math wC_mmaxL (Nat.le_of_ble_eq_true rfl) dX4_factorOf_30 (fun y6 b7 => ?_)
    exact pm_lret hC hR ⟨y6, rfl, ⟨by omega, by omega⟩, rfl⟩ dX4_factorOf_33
  · skip
    refine pm_aload_n hC 1 (by decide) dX4_factorOf_10 rfl ?_
    have e8 : V0 84 1 = 85 := hV0.one 84 1 (by decide) (by decide) rfl
    refine pm_getf (v := 85) hC 84 fl_X4_51 rfl rfl (by decide) rfl e8 dX4_factorOf_11 ?_
    refine pm_iload_n hC 0 dX4_factorOf_14 rfl ?_
    obtain ⟨y9, e10⟩ : ∃ y, V0 85 ((a1 / 2) : Int).toNat = y := ⟨_, rfl⟩
    have b11 := hV0.get 85 ((a1 / 2) : Int).toNat (lo := (-9223372036854775808)) (hi := 9223372036854775807) (by decide) (show _ < 60 by omega) rfl
    rw [e10] at b11
    refine pm_laload (len := 60) (v := y9) hC 85 rfl rfl (by decide) ⟨by omega, by omega⟩ (by decide) e10 dX4_factorOf_15 ?_
    refine pm_goto (tgt := 25) hC dX4_factorOf_16 (by decide) ?_
    refine pm_lstore (lv' := [(4, (1, y9)), (3, (0, (a1 / 2))), (0, (3, 84)), (1, (3, 84)), (2, (0, a1))]) hC dX4_factorOf_25 (by decide) rfl ?_
    refine pm_lconst (x := 1) hC dX4_factorOf_27 rfl ?_
    refine pm_lload hC 0 dX4_factorOf_28 rfl ?_
    refine pm_mmaxL hC 4168 4169 1018 4170 ⟨by decide, by decide⟩ ⟨by omega, by omega⟩ (by decide) wL_X4_58 wS_mmaxL wI_math wC_mmaxL (Nat.le_of_ble_eq_true rfl) dX4_factorOf_30 (fun y12 b13 => ?_)
    exact pm_lret hC hR ⟨y12, rfl, ⟨by omega, by omega⟩, rfl⟩ dX4_factorOf_33
set_option maxHeartbeats 4000000 in
set_option maxRecDepth 100000 in
theorem c_X4_roughQuotient_84_84 (a1 : Int) (h0 : 0 ≤ a1 ∧ a1 ≤ 60) : pm_K 2 yX4_roughQuotient cX4_roughQuotient 9 (some .double) (fun av V => av = [(3, 84), (3, 84), (0, a1)] ∧ pm_ok 0 90 V) (fun _ V r V' => ∃ y, r = some (2, y) ∧ True ∧ V = V') := by
  refine pm_MT.of (by decide) ⟨Nat.le_refl _, by decide⟩ (fun av V h => by rw [h.1]; exact (by decide : pm_words [(3, 0), (3, 0), (0, 0)] ≤ 9)) ?_
  rintro X av V0 hC - hR ⟨rfl, hV0⟩
  change pm_J X 0 [(0, (3, 84)), (1, (3, 84)), (2, (0, a1))] [] 118 V0
  refine pm_dconst1 hC dX4_roughQuotient_0 (fun r1 => ?_)
  refine pm_dstore_n (lv' := [(3, (2, r1)), (0, (3, 84)), (1, (3, 84)), (2, (0, a1))]) hC dX4_roughQuotient_1 (by decide) rfl ?_
  refine pm_iconst (v := 0) hC dX4_roughQuotient_2 ?_
  refine pm_istore (lv' := [(5, (0, 0)), (3, (2, r1)), (0, (3, 84)), (1, (3, 84)), (2, (0, a1))]) hC dX4_roughQuotient_3 (by decide) rfl ?_
  refine pm_iconst (v := 0) hC dX4_roughQuotient_5 ?_
  refine pm_istore (lv' := [(6, (0, 0)), (5, (0, 0)), (3, (2, r1)), (0, (3, 84)), (1, (3, 84)), (2, (0, a1))]) hC dX4_roughQuotient_6 (by decide) rfl ?_
  refine pm_iconst (v := 0) hC dX4_roughQuotient_8 ?_
  refine pm_istore (lv' := [(7, (0, 0)), (6, (0, 0)), (5, (0, 0)), (3, (2, r1)), (0, (3, 84)), (1, (3, 84)), (2, (0, a1))]) hC dX4_roughQuotient_9 (by decide) rfl ?_
  have L12 : ∀ (N14 : Nat) (x2 : Int) (x3 : Int) (x5 : Int) (x7 : Int), (0 ≤ x3 ∧ x3 ≤ 120) → (0 ≤ x5 ∧ x5 ≤ 120) → (0 ≤ x7 ∧ x7 ≤ 240) → (x3 + x5 = x7) → (x3 ≤ 2 * a1) → (x5 ≤ 2 * a1) → (Int.toNat (240 - x7)) = N14 → pm_J X 11 [(0, (3, 84)), (1, (3, 84)), (2, (0, a1)), (3, (2, x2)), (5, (0, x3)), (6, (0, x5)), (7, (0, x7))] [] 118 V0 := by
    intro N14
    induction N14 using Nat.strongRecOn with
    | _ N14 ih15 =>
    intro x2 x3 x5 x7 b4 b6 b8 b9 b10 b11 hm13
    refine pm_iload hC 6 dX4_roughQuotient_11 rfl ?_
    refine pm_iconst (v := 4) hC dX4_roughQuotient_13 ?_
    refine pm_iload_n hC 2 dX4_roughQuotient_14 rfl ?_
    refine pm_imul hC dX4_roughQuotient_15 ?_
    refine pm_icmp_ge (tgt := 90) hC ⟨by omega, by omega⟩ ⟨by omega, by omega⟩ dX4_roughQuotient_16 (by decide) (fun c16 => ?_) (fun c16 => ?_)
    · skip
      refine pm_dload_n hC 3 dX4_roughQuotient_90 rfl ?_
      exact pm_dret hC hR ⟨x2, rfl, trivial, rfl⟩ dX4_roughQuotient_91
    · skip
      refine pm_iload hC 5 dX4_roughQuotient_19 rfl ?_
      refine pm_iconst (v := 2) hC dX4_roughQuotient_21 ?_
      refine pm_iload_n hC 2 dX4_roughQuotient_22 rfl ?_
      refine pm_imul hC dX4_roughQuotient_23 ?_
      refine pm_icmp_ge (tgt := 41) hC ⟨by omega, by omega⟩ ⟨by omega, by omega⟩ dX4_roughQuotient_24 (by decide) (fun c17 => ?_) (fun c17 => ?_)
      · skip
        refine pm_iconst (v := 1) hC dX4_roughQuotient_41 ?_
        refine pm_goto (tgt := 46) hC dX4_roughQuotient_42 (by decide) ?_
        refine pm_istore (lv' := [(8, (0, 1)), (0, (3, 84)), (1, (3, 84)), (2, (0, a1)), (3, (2, x2)), (5, (0, x3)), (6, (0, x5)), (7, (0, x7))]) hC dX4_roughQuotient_46 (by decide) rfl ?_
        refine pm_iload hC 0 dX4_roughQuotient_48 rfl ?_
        refine pm_if_eq (tgt := 70) hC ⟨by decide, by decide⟩ dX4_roughQuotient_50 (by decide) (fun c18 => ?_) (fun c18 => ?_)
        · skip
          exfalso; omega
        · skip
          refine pm_dload_n hC 4 dX4_roughQuotient_53 rfl ?_
          refine pm_aload_n hC 1 (by decide) dX4_roughQuotient_54 rfl ?_
          refine pm_aload_n hC 2 (by decide) dX4_roughQuotient_55 rfl ?_
          refine pm_iload hC 5 dX4_roughQuotient_56 rfl ?_
          refine pm_callS (as := [(3, 84), (3, 84), (0, x3)]) (st := [(2, x2)]) hC (c_X4_factorOf_84_84 x3 ⟨by omega, by omega⟩) lm_X4_47 ls_X4_factorOf (by decide) (by decide) rfl rfl (Nat.le_of_ble_eq_true rfl) ⟨Nat.le_refl _, Or.inl rfl⟩ dX4_roughQuotient_58 ⟨rfl, hV0⟩ (fun r19 V20 hp21 => ?_)
          obtain ⟨y22, rfl, b23, rfl⟩ := hp21
          change pm_J X 61 [(8, (0, 1)), (0, (3, 84)), (1, (3, 84)), (2, (0, a1)), (3, (2, x2)), (5, (0, x3)), (6, (0, x5)), (7, (0, x7))] [(1, y22), (2, x2)] 118 V0
          refine pm_l2d hC dX4_roughQuotient_61 (fun r24 => ?_)
          refine pm_dmul hC dX4_roughQuotient_62 (fun r25 => ?_)
          refine pm_dstore_n (lv' := [(3, (2, r25)), (8, (0, 1)), (0, (3, 84)), (1, (3, 84)), (2, (0, a1)), (5, (0, x3)), (6, (0, x5)), (7, (0, x7))]) hC dX4_roughQuotient_63 (by decide) rfl ?_
          obtain ⟨x26, ei27⟩ : ∃ y : Int, x3 + 1 = y := ⟨_, rfl⟩
          refine pm_iinc (y := x26) (lv' := [(5, (0, x26)), (3, (2, r25)), (8, (0, 1)), (0, (3, 84)), (1, (3, 84)), (2, (0, a1)), (6, (0, x5)), (7, (0, x7))]) hC 5 dX4_roughQuotient_64 (by decide) rfl ei27 rfl ?_
          refine pm_goto (tgt := 84) hC dX4_roughQuotient_67 (by decide) ?_
          obtain ⟨x28, ei29⟩ : ∃ y : Int, x7 + 1 = y := ⟨_, rfl⟩
          refine pm_iinc (y := x28) (lv' := [(7, (0, x28)), (5, (0, x26)), (3, (2, r25)), (8, (0, 1)), (0, (3, 84)), (1, (3, 84)), (2, (0, a1)), (6, (0, x5))]) hC 7 dX4_roughQuotient_84 (by decide) rfl ei29 rfl ?_
          refine pm_goto (tgt := 11) hC dX4_roughQuotient_87 (by decide) ?_
          refine pm_lvsub [4, 5, 6, 2, 1, 7, 0] (lv' := [(0, (3, 84)), (1, (3, 84)), (2, (0, a1)), (3, (2, r25)), (5, (0, x26)), (6, (0, x5)), (7, (0, x28))]) rfl ?_
          exact ih15 _ (by omega) r25 x26 x5 x28 ⟨by omega, by omega⟩ ⟨by omega, by omega⟩ ⟨by omega, by omega⟩ (by omega) (by omega) (by omega) rfl
      · skip
        refine pm_iload hC 4 dX4_roughQuotient_27 rfl ?_
        refine pm_iconst (v := 2) hC dX4_roughQuotient_29 ?_
        refine pm_iload_n hC 2 dX4_roughQuotient_30 rfl ?_
        refine pm_imul hC dX4_roughQuotient_31 ?_
        refine pm_icmp_ge (tgt := 45) hC ⟨by omega, by omega⟩ ⟨by omega, by omega⟩ dX4_roughQuotient_32 (by decide) (fun c30 => ?_) (fun c30 => ?_)
        · skip
          refine pm_iconst (v := 0) hC dX4_roughQuotient_45 ?_
          refine pm_istore (lv' := [(8, (0, 0)), (0, (3, 84)), (1, (3, 84)), (2, (0, a1)), (3, (2, x2)), (5, (0, x3)), (6, (0, x5)), (7, (0, x7))]) hC dX4_roughQuotient_46 (by decide) rfl ?_
          refine pm_iload hC 0 dX4_roughQuotient_48 rfl ?_
          refine pm_if_eq (tgt := 70) hC ⟨by decide, by decide⟩ dX4_roughQuotient_50 (by decide) (fun c31 => ?_) (fun c31 => ?_)
          · skip
            refine pm_dload_n hC 4 dX4_roughQuotient_70 rfl ?_
            refine pm_aload_n hC 2 (by decide) dX4_roughQuotient_71 rfl ?_
            refine pm_aload_n hC 1 (by decide) dX4_roughQuotient_72 rfl ?_
            refine pm_iload hC 6 dX4_roughQuotient_73 rfl ?_
            refine pm_callS (as := [(3, 84), (3, 84), (0, x5)]) (st := [(2, x2)]) hC (c_X4_factorOf_84_84 x5 ⟨by omega, by omega⟩) lm_X4_47 ls_X4_factorOf (by decide) (by decide) rfl rfl (Nat.le_of_ble_eq_true rfl) ⟨Nat.le_refl _, Or.inl rfl⟩ dX4_roughQuotient_75 ⟨rfl, hV0⟩ (fun r32 V33 hp34 => ?_)
            obtain ⟨y35, rfl, b36, rfl⟩ := hp34
            change pm_J X 78 [(8, (0, 0)), (0, (3, 84)), (1, (3, 84)), (2, (0, a1)), (3, (2, x2)), (5, (0, x3)), (6, (0, x5)), (7, (0, x7))] [(1, y35), (2, x2)] 118 V0
            refine pm_l2d hC dX4_roughQuotient_78 (fun r37 => ?_)
            refine pm_ddiv hC dX4_roughQuotient_79 (fun r38 => ?_)
            refine pm_dstore_n (lv' := [(3, (2, r38)), (8, (0, 0)), (0, (3, 84)), (1, (3, 84)), (2, (0, a1)), (5, (0, x3)), (6, (0, x5)), (7, (0, x7))]) hC dX4_roughQuotient_80 (by decide) rfl ?_
            obtain ⟨x39, ei40⟩ : ∃ y : Int, x5 + 1 = y := ⟨_, rfl⟩
            refine pm_iinc (y := x39) (lv' := [(6, (0, x39)), (3, (2, r38)), (8, (0, 0)), (0, (3, 84)), (1, (3, 84)), (2, (0, a1)), (5, (0, x3)), (7, (0, x7))]) hC 6 dX4_roughQuotient_81 (by decide) rfl ei40 rfl ?_
            obtain ⟨x41, ei42⟩ : ∃ y : Int, x7 + 1 = y := ⟨_, rfl⟩
            refine pm_iinc (y := x41) (lv' := [(7, (0, x41)), (6, (0, x39)), (3, (2, r38)), (8, (0, 0)), (0, (3, 84)), (1, (3, 84)), (2, (0, a1)), (5, (0, x3))]) hC 7 dX4_roughQuotient_84 (by decide) rfl ei42 rfl ?_
            refine pm_goto (tgt := 11) hC dX4_roughQuotient_87 (by decide) ?_
            refine pm_lvsub [4, 5, 6, 2, 7, 1, 0] (lv' := [(0, (3, 84)), (1, (3, 84)), (2, (0, a1)), (3, (2, r38)), (5, (0, x3)), (6, (0, x39)), (7, (0, x41))]) rfl ?_
            exact ih15 _ (by omega) r38 x3 x39 x41 ⟨by omega, by omega⟩ ⟨by omega, by omega⟩ ⟨by omega, by omega⟩ (by omega) (by omega) (by omega) rfl
          · skip
            exfalso; omega
        · skip
          refine pm_dload_n hC 3 dX4_roughQuotient_35 rfl ?_
          refine pm_dconst1 hC dX4_roughQuotient_36 (fun r43 => ?_)
          refine pm_dcmp hC dX4_roughQuotient_37 (fun y44 b45 => ?_)
          have b45 := And.intro b45.1 b45.2
          refine pm_if_gt (tgt := 45) hC ⟨by omega, by omega⟩ dX4_roughQuotient_38 (by decide) (fun c46 => ?_) (fun c46 => ?_)
          · skip
            refine pm_iconst (v := 0) hC dX4_roughQuotient_45 ?_
            refine pm_istore (lv' := [(8, (0, 0)), (0, (3, 84)), (1, (3, 84)), (2, (0, a1)), (3, (2, x2)), (5, (0, x3)), (6, (0, x5)), (7, (0, x7))]) hC dX4_roughQuotient_46 (by decide) rfl ?_
            refine pm_iload hC 0 dX4_roughQuotient_48 rfl ?_
            refine pm_if_eq (tgt := 70) hC ⟨by decide, by decide⟩ dX4_roughQuotient_50 (by decide) (fun c47 => ?_) (fun c47 => ?_)
            · skip
              refine pm_dload_n hC 4 dX4_roughQuotient_70 rfl ?_
              refine pm_aload_n hC 2 (by decide) dX4_roughQuotient_71 rfl ?_
              refine pm_aload_n hC 1 (by decide) dX4_roughQuotient_72 rfl ?_
              refine pm_iload hC 6 dX4_roughQuotient_73 rfl ?_
              refine pm_callS (as := [(3, 84), (3, 84), (0, x5)]) (st := [(2, x2)]) hC (c_X4_factorOf_84_84 x5 ⟨by omega, by omega⟩) lm_X4_47 ls_X4_factorOf (by decide) (by decide) rfl rfl (Nat.le_of_ble_eq_true rfl) ⟨Nat.le_refl _, Or.inl rfl⟩ dX4_roughQuotient_75 ⟨rfl, hV0⟩ (fun r48 V49 hp50 => ?_)
              obtain ⟨y51, rfl, b52, rfl⟩ := hp50
              change pm_J X 78 [(8, (0, 0)), (0, (3, 84)), (1, (3, 84)), (2, (0, a1)), (3, (2, x2)), (5, (0, x3)), (6, (0, x5)), (7, (0, x7))] [(1, y51), (2, x2)] 118 V0
              refine pm_l2d hC dX4_roughQuotient_78 (fun r53 => ?_)
              refine pm_ddiv hC dX4_roughQuotient_79 (fun r54 => ?_)
              refine pm_dstore_n (lv' := [(3, (2, r54)), (8, (0, 0)), (0, (3, 84)), (1, (3, 84)), (2, (0, a1)), (5, (0, x3)), (6, (0, x5)), (7, (0, x7))]) hC dX4_roughQuotient_80 (by decide) rfl ?_
              obtain ⟨x55, ei56⟩ : ∃ y : Int, x5 + 1 = y := ⟨_, rfl⟩
              refine pm_iinc (y := x55) (lv' := [(6, (0, x55)), (3, (2, r54)), (8, (0, 0)), (0, (3, 84)), (1, (3, 84)), (2, (0, a1)), (5, (0, x3)), (7, (0, x7))]) hC 6 dX4_roughQuotient_81 (by decide) rfl ei56 rfl ?_
              obtain ⟨x57, ei58⟩ : ∃ y : Int, x7 + 1 = y := ⟨_, rfl⟩
              refine pm_iinc (y := x57) (lv' := [(7, (0, x57)), (6, (0, x55)), (3, (2, r54)), (8, (0, 0)), (0, (3, 84)), (1, (3, 84)), (2, (0, a1)), (5, (0, x3))]) hC 7 dX4_roughQuotient_84 (by decide) rfl ei58 rfl ?_
              refine pm_goto (tgt := 11) hC dX4_roughQuotient_87 (by decide) ?_
              refine pm_lvsub [4, 5, 6, 2, 7, 1, 0] (lv' := [(0, (3, 84)), (1, (3, 84)), (2, (0, a1)), (3, (2, r54)), (5, (0, x3)), (6, (0, x55)), (7, (0, x57))]) rfl ?_
              exact ih15 _ (by omega) r54 x3 x55 x57 ⟨by omega, by omega⟩ ⟨by omega, by omega⟩ ⟨by omega, by omega⟩ (by omega) (by omega) (by omega) rfl
            · skip
              exfalso; omega
          · skip
            refine pm_iconst (v := 1) hC dX4_roughQuotient_41 ?_
            refine pm_goto (tgt := 46) hC dX4_roughQuotient_42 (by decide) ?_
            refine pm_istore (lv' := [(8, (0, 1)), (0, (3, 84)), (1, (3, 84)), (2, (0, a1)), (3, (2, x2)), (5, (0, x3)), (6, (0, x5)), (7, (0, x7))]) hC dX4_roughQuotient_46 (by decide) rfl ?_
            refine pm_iload hC 0 dX4_roughQuotient_48 rfl ?_
            refine pm_if_eq (tgt := 70) hC ⟨by decide, by decide⟩ dX4_roughQuotient_50 (by decide) (fun c59 => ?_) (fun c59 => ?_)
            · skip
              exfalso; omega
            · skip
              refine pm_dload_n hC 4 dX4_roughQuotient_53 rfl ?_
              refine pm_aload_n hC 1 (by decide) dX4_roughQuotient_54 rfl ?_
              refine pm_aload_n hC 2 (by decide) dX4_roughQuotient_55 rfl ?_
              refine pm_iload hC 5 dX4_roughQuotient_56 rfl ?_
              refine pm_callS (as := [(3, 84), (3, 84), (0, x3)]) (st := [(2, x2)]) hC (c_X4_factorOf_84_84 x3 ⟨by omega, by omega⟩) lm_X4_47 ls_X4_factorOf (by decide) (by decide) rfl rfl (Nat.le_of_ble_eq_true rfl) ⟨Nat.le_refl _, Or.inl rfl⟩ dX4_roughQuotient_58 ⟨rfl, hV0⟩ (fun r60 V61 hp62 => ?_)
              obtain ⟨y63, rfl, b64, rfl⟩ := hp62
              change pm_J X 61 [(8, (0, 1)), (0, (3, 84)), (1, (3, 84)), (2, (0, a1)), (3, (2, x2)), (5, (0, x3)), (6, (0, x5)), (7, (0, x7))] [(1, y63), (2, x2)] 118 V0
              refine pm_l2d hC dX4_roughQuotient_61 (fun r65 => ?_)
              refine pm_dmul hC dX4_roughQuotient_62 (fun r66 => ?_)
              refine pm_dstore_n (lv' := [(3, (2, r66)), (8, (0, 1)), (0, (3, 84)), (1, (3, 84)), (2, (0, a1)), (5, (0, x3)), (6, (0, x5)), (7, (0, x7))]) hC dX4_roughQuotient_63 (by decide) rfl ?_
              obtain ⟨x67, ei68⟩ : ∃ y : Int, x3 + 1 = y := ⟨_, rfl⟩
              refine pm_iinc (y := x67) (lv' := [(5, (0, x67)), (3, (2, r66)), (8, (0, 1)), (0, (3, 84)), (1, (3, 84)), (2, (0, a1)), (6, (0, x5)), (7, (0, x7))]) hC 5 dX4_roughQuotient_64 (by decide) rfl ei68 rfl ?_
              refine pm_goto (tgt := 84) hC dX4_roughQuotient_67 (by decide) ?_
              obtain ⟨x69, ei70⟩ : ∃ y : Int, x7 + 1 = y := ⟨_, rfl⟩
              refine pm_iinc (y := x69) (lv' := [(7, (0, x69)), (5, (0, x67)), (3, (2, r66)), (8, (0, 1)), (0, (3, 84)), (1, (3, 84)), (2, (0, a1)), (6, (0, x5))]) hC 7 dX4_roughQuotient_84 (by decide) rfl ei70 rfl ?_
              refine pm_goto (tgt := 11) hC dX4_roughQuotient_87 (by decide) ?_
              refine pm_lvsub [4, 5, 6, 2, 1, 7, 0] (lv' := [(0, (3, 84)), (1, (3, 84)), (2, (0, a1)), (3, (2, r66)), (5, (0, x67)), (6, (0, x5)), (7, (0, x69))]) rfl ?_
              exact ih15 _ (by omega) r66 x67 x5 x69 ⟨by omega, by omega⟩ ⟨by omega, by omega⟩ ⟨by omega, by omega⟩ (by omega) (by omega) (by omega) rfl
  refine pm_lvsub [4, 5, 6, 3, 2, 1, 0] (lv' := [(0, (3, 84)), (1, (3, 84)), (2, (0, a1)), (3, (2, r1)), (5, (0, 0)), (6, (0, 0)), (7, (0, 0))]) rfl ?_
  exact L12 _ r1 0 0 0 ⟨by decide, by decide⟩ ⟨by decide, by decide⟩ ⟨by decide, by decide⟩ (by omega) (by omega) (by omega) rfl
set_option maxHeartbeats 4000000 in
set_option maxRecDepth 100000 in
theorem c_X1_begin_79  : pm_K 1 yX1_begin cX1_begin 1 none (fun av V => av = [(3, 79)] ∧ pm_ok 0 90 V) (fun _ V r V' => r = none ∧ pm_ok 0 90 V' ∧ pm_fr [79, 80] V V') := by
  refine pm_MT.of (by decide) ⟨Nat.le_refl _, by decide⟩ (fun av V h => by rw [h.1]; exact (by decide : pm_words [(3, 0)] ≤ 1)) ?_
  rintro X av V0 hC - hR ⟨rfl, hV0⟩
  change pm_J X 0 [(0, (3, 79))] [] 118 V0
  refine pm_aload_n hC 0 (by decide) dX1_begin_0 rfl ?_
  have e1 : V0 79 0 = 80 := hV0.one 79 0 (by decide) (by decide) rfl
  refine pm_getf (v := 80) hC 79 fl_X1_9 rfl rfl (by decide) rfl e1 dX1_begin_1 ?_
  refine pm_iconst (v := 0) hC dX1_begin_4 ?_
  refine pm_lconst (x := 1) hC dX1_begin_5 rfl ?_
  refine pm_lastore (len := 128) hC 80 rfl rfl (by decide) ⟨by decide, by decide⟩ (by decide) dX1_begin_6 ?_
  refine pm_aload_n hC 0 (by decide) dX1_begin_7 rfl ?_
  refine pm_iconst (v := 1) hC dX1_begin_8 ?_
  refine pm_putf hC 79 fl_X1_13 rfl rfl rfl (by decide) rfl trivial dX1_begin_9 ?_
  exact pm_vret hC hR ⟨rfl, ((hV0.put 80 (0 : Int).toNat (x := 1) (lo := (-9223372036854775808)) (hi := 9223372036854775807) rfl ⟨by decide, by decide⟩).put 79 1 (x := 1) (lo := 0) (hi := 128) rfl ⟨by decide, by decide⟩), (((pm_fr.rf (ws := [79, 80]) (V := V0)).up 80 (0 : Int).toNat 1 rfl).up 79 1 1 rfl)⟩ dX1_begin_12
set_option maxHeartbeats 4000000 in
set_option maxRecDepth 100000 in
theorem c_X1_begin_81  : pm_K 1 yX1_begin cX1_begin 1 none (fun av V => av = [(3, 81)] ∧ pm_ok 0 90 V) (fun _ V r V' => r = none ∧ pm_ok 0 90 V' ∧ pm_fr [81, 82] V V') := by
  refine pm_MT.of (by decide) ⟨Nat.le_refl _, by decide⟩ (fun av V h => by rw [h.1]; exact (by decide : pm_words [(3, 0)] ≤ 1)) ?_
  rintro X av V0 hC - hR ⟨rfl, hV0⟩
  change pm_J X 0 [(0, (3, 81))] [] 118 V0
  refine pm_aload_n hC 0 (by decide) dX1_begin_0 rfl ?_
  have e1 : V0 81 0 = 82 := hV0.one 81 0 (by decide) (by decide) rfl
  refine pm_getf (v := 82) hC 81 fl_X1_9 rfl rfl (by decide) rfl e1 dX1_begin_1 ?_
  refine pm_iconst (v := 0) hC dX1_begin_4 ?_
  refine pm_lconst (x := 1) hC dX1_begin_5 rfl ?_
  refine pm_lastore (len := 128) hC 82 rfl rfl (by decide) ⟨by decide, by decide⟩ (by decide) dX1_begin_6 ?_
  refine pm_aload_n hC 0 (by decide) dX1_begin_7 rfl ?_
  refine pm_iconst (v := 1) hC dX1_begin_8 ?_
  refine pm_putf hC 81 fl_X1_13 rfl rfl rfl (by decide) rfl trivial dX1_begin_9 ?_
  exact pm_vret hC hR ⟨rfl, ((hV0.put 82 (0 : Int).toNat (x := 1) (lo := (-9223372036854775808)) (hi := 9223372036854775807) rfl ⟨by decide, by decide⟩).put 81 1 (x := 1) (lo := 0) (hi := 128) rfl ⟨by decide, by decide⟩), (((pm_fr.rf (ws := [81, 82]) (V := V0)).up 82 (0 : Int).toNat 1 rfl).up 81 1 1 rfl)⟩ dX1_begin_12
set_option maxHeartbeats 4000000 in
set_option maxRecDepth 100000 in
theorem c_X1_compareWith_79_81  : pm_K 1 yX1_compareWith cX1_compareWith 3 (some .int) (fun av V => av = [(3, 79), (3, 81)] ∧ pm_ok 0 90 V) (fun _ V r V' => ∃ y, r = some (0, y) ∧ ((-1) ≤ y ∧ y ≤ 1) ∧ V = V') := by
  refine pm_MT.of (by decide) ⟨Nat.le_refl _, by decide⟩ (fun av V h => by rw [h.1]; exact (by decide : pm_words [(3, 0), (3, 0)] ≤ 3)) ?_
  rintro X av V0 hC - hR ⟨rfl, hV0⟩
  change pm_J X 0 [(0, (3, 79)), (1, (3, 81))] [] 118 V0
  refine pm_aload_n hC 0 (by decide) dX1_compareWith_0 rfl ?_
  obtain ⟨y1, e2⟩ : ∃ y, V0 79 1 = y := ⟨_, rfl⟩
  have b3 := hV0.get 79 1 (lo := 0) (hi := 128) (by decide) (by decide) rfl
  rw [e2] at b3
  refine pm_getf (v := y1) hC 79 fl_X1_13 rfl rfl (by decide) rfl e2 dX1_compareWith_1 ?_
  refine pm_aload_n hC 1 (by decide) dX1_compareWith_4 rfl ?_
  obtain ⟨y4, e5⟩ : ∃ y, V0 81 1 = y := ⟨_, rfl⟩
  have b6 := hV0.get 81 1 (lo := 0) (hi := 128) (by decide) (by decide) rfl
  rw [e5] at b6
  refine pm_getf (v := y4) hC 81 fl_X1_13 rfl rfl (by decide) rfl e5 dX1_compareWith_5 ?_
  refine pm_icmp_eq (tgt := 28) hC ⟨by omega, by omega⟩ ⟨by omega, by omega⟩ dX1_compareWith_8 (by decide) (fun c7 => ?_) (fun c7 => ?_)
  · skip
    refine pm_aload_n hC 0 (by decide) dX1_compareWith_28 rfl ?_
    refine pm_getf (v := y1) hC 79 fl_X1_13 rfl rfl (by decide) rfl e2 dX1_compareWith_29 ?_
    refine pm_iconst (v := 1) hC dX1_compareWith_32 ?_
    refine pm_isub hC dX1_compareWith_33 ?_
    refine pm_istore_n (lv' := [(2, (0, (y1 - 1))), (0, (3, 79)), (1, (3, 81))]) hC dX1_compareWith_34 (by decide) rfl ?_
    have L10 : ∀ (N12 : Nat) (x8 : Int), ((-1) ≤ x8 ∧ x8 ≤ 127) → (Int.toNat (x8 - (-1))) = N12 → pm_J X 35 [(0, (3, 79)), (1, (3, 81)), (2, (0, x8))] [] 118 V0 := by
      intro N12
      induction N12 using Nat.strongRecOn with
      | _ N12 ih13 =>
      intro x8 b9 hm11
      refine pm_iload_n hC 2 dX1_compareWith_35 rfl ?_
      refine pm_if_lt (tgt := 83) hC ⟨by omega, by omega⟩ dX1_compareWith_36 (by decide) (fun c14 => ?_) (fun c14 => ?_)
      · skip
        refine pm_iconst (v := 0) hC dX1_compareWith_83 ?_
        exact pm_iret hC hR pm_nar0 ⟨0, rfl, ⟨by omega, by omega⟩, rfl⟩ dX1_compareWith_84
      · skip
        refine pm_aload_n hC 0 (by decide) dX1_compareWith_39 rfl ?_
        have e15 : V0 79 0 = 80 := hV0.one 79 0 (by decide) (by decide) rfl
        refine pm_getf (v := 80) hC 79 fl_X1_9 rfl rfl (by decide) rfl e15 dX1_compareWith_40 ?_
        refine pm_iload_n hC 2 dX1_compareWith_43 rfl ?_
        obtain ⟨y16, e17⟩ : ∃ y, V0 80 (x8 : Int).toNat = y := ⟨_, rfl⟩
        have b18 := hV0.get 80 (x8 : Int).toNat (lo := (-9223372036854775808)) (hi := 9223372036854775807) (by decide) (show _ < 128 by omega) rfl
        rw [e17] at b18
        refine pm_laload (len := 128) (v := y16) hC 80 rfl rfl (by decide) ⟨by omega, by omega⟩ (by decide) e17 dX1_compareWith_44 ?_
        refine pm_aload_n hC 1 (by decide) dX1_compareWith_45 rfl ?_
        have e19 : V0 81 0 = 82 := hV0.one 81 0 (by decide) (by decide) rfl
        refine pm_getf (v := 82) hC 81 fl_X1_9 rfl rfl (by decide) rfl e19 dX1_compareWith_46 ?_
        refine pm_iload_n hC 2 dX1_compareWith_49 rfl ?_
        obtain ⟨y20, e21⟩ : ∃ y, V0 82 (x8 : Int).toNat = y := ⟨_, rfl⟩
        have b22 := hV0.get 82 (x8 : Int).toNat (lo := (-9223372036854775808)) (hi := 9223372036854775807) (by decide) (show _ < 128 by omega) rfl
        rw [e21] at b22
        refine pm_laload (len := 128) (v := y20) hC 82 rfl rfl (by decide) ⟨by omega, by omega⟩ (by decide) e21 dX1_compareWith_50 ?_
        refine pm_lcmp hC ⟨by omega, by omega⟩ ⟨by omega, by omega⟩ dX1_compareWith_51 (fun y23 b24 => ?_)
        refine pm_if_eq (tgt := 77) hC ⟨by omega, by omega⟩ dX1_compareWith_52 (by decide) (fun c25 => ?_) (fun c25 => ?_)
        · skip
          obtain ⟨x26, ei27⟩ : ∃ y : Int, x8 + (-1) = y := ⟨_, rfl⟩
          refine pm_iinc (y := x26) (lv' := [(2, (0, x26)), (0, (3, 79)), (1, (3, 81))]) hC 2 dX1_compareWith_77 (by decide) rfl ei27 rfl ?_
          refine pm_goto (tgt := 35) hC dX1_compareWith_80 (by decide) ?_
          refine pm_lvsub [1, 2, 0] (lv' := [(0, (3, 79)), (1, (3, 81)), (2, (0, x26))]) rfl ?_
          exact ih13 _ (by omega) x26 ⟨by omega, by omega⟩ rfl
        · skip
          refine pm_aload_n hC 0 (by decide) dX1_compareWith_55 rfl ?_
          refine pm_getf (v := 80) hC 79 fl_X1_9 rfl rfl (by decide) rfl e15 dX1_compareWith_56 ?_
          refine pm_iload_n hC 2 dX1_compareWith_59 rfl ?_
          refine pm_laload (len := 128) (v := y16) hC 80 rfl rfl (by decide) ⟨by omega, by omega⟩ (by decide) e17 dX1_compareWith_60 ?_
          refine pm_aload_n hC 1 (by decide) dX1_compareWith_61 rfl ?_
          refine pm_getf (v := 82) hC 81 fl_X1_9 rfl rfl (by decide) rfl e19 dX1_compareWith_62 ?_
          refine pm_iload_n hC 2 dX1_compareWith_65 rfl ?_
          refine pm_laload (len := 128) (v := y20) hC 82 rfl rfl (by decide) ⟨by omega, by omega⟩ (by decide) e21 dX1_compareWith_66 ?_
          refine pm_lcmp hC ⟨by omega, by omega⟩ ⟨by omega, by omega⟩ dX1_compareWith_67 (fun y28 b29 => ?_)
          refine pm_if_le (tgt := 75) hC ⟨by omega, by omega⟩ dX1_compareWith_68 (by decide) (fun c30 => ?_) (fun c30 => ?_)
          · skip
            refine pm_iconst (v := (-1)) hC dX1_compareWith_75 ?_
            exact pm_iret hC hR pm_nar0 ⟨(-1), rfl, ⟨by omega, by omega⟩, rfl⟩ dX1_compareWith_76
          · skip
            refine pm_iconst (v := 1) hC dX1_compareWith_71 ?_
            refine pm_goto (tgt := 76) hC dX1_compareWith_72 (by decide) ?_
            exact pm_iret hC hR pm_nar0 ⟨1, rfl, ⟨by omega, by omega⟩, rfl⟩ dX1_compareWith_76
    refine pm_lvsub [1, 2, 0] (lv' := [(0, (3, 79)), (1, (3, 81)), (2, (0, (y1 - 1)))]) rfl ?_
    exact L10 _ (y1 - 1) ⟨by omega, by omega⟩ rfl
  · skip
    refine pm_aload_n hC 0 (by decide) dX1_compareWith_11 rfl ?_
    refine pm_getf (v := y1) hC 79 fl_X1_13 rfl rfl (by decide) rfl e2 dX1_compareWith_12 ?_
    refine pm_aload_n hC 1 (by decide) dX1_compareWith_15 rfl ?_
    refine pm_getf (v := y4) hC 81 fl_X1_13 rfl rfl (by decide) rfl e5 dX1_compareWith_16 ?_
    refine pm_icmp_le (tgt := 26) hC ⟨by omega, by omega⟩ ⟨by omega, by omega⟩ dX1_compareWith_19 (by decide) (fun c31 => ?_) (fun c31 => ?_)
    · skip
      refine pm_iconst (v := (-1)) hC dX1_compareWith_26 ?_
      exact pm_iret hC hR pm_nar0 ⟨(-1), rfl, ⟨by omega, by omega⟩, rfl⟩ dX1_compareWith_27
    · skip
      refine pm_iconst (v := 1) hC dX1_compareWith_22 ?_
      refine pm_goto (tgt := 27) hC dX1_compareWith_23 (by decide) ?_
      exact pm_iret hC hR pm_nar0 ⟨1, rfl, ⟨by omega, by omega⟩, rfl⟩ dX1_compareWith_27
set_option maxHeartbeats 4000000 in
set_option maxRecDepth 100000 in
theorem c_X1_times_79 (a1 : Int) (h0 : (-9223372036854775808) ≤ a1 ∧ a1 ≤ 9223372036854775807) : pm_K 1 yX1_times cX1_times 8 none (fun av V => av = [(3, 79), (1, a1)] ∧ pm_ok 0 90 V) (fun _ V r V' => r = none ∧ pm_ok 0 90 V' ∧ pm_fr [79, 80] V V') := by
  refine pm_MT.of (by decide) ⟨Nat.le_refl _, by decide⟩ (fun av V h => by rw [h.1]; exact (by decide : pm_words [(3, 0), (1, 0)] ≤ 8)) ?_
  rintro X av V0 hC - hR ⟨rfl, hV0⟩
  change pm_J X 0 [(0, (3, 79)), (1, (1, a1))] [] 118 V0
  refine pm_lconst (x := 0) hC dX1_times_0 rfl ?_
  refine pm_lstore_n (lv' := [(3, (1, 0)), (0, (3, 79)), (1, (1, a1))]) hC dX1_times_1 (by decide) rfl ?_
  refine pm_iconst (v := 0) hC dX1_times_2 ?_
  refine pm_istore (lv' := [(5, (0, 0)), (3, (1, 0)), (0, (3, 79)), (1, (1, a1))]) hC dX1_times_3 (by decide) rfl ?_
  have L8 : ∀ (N10 : Nat) (x1 : Int) (x3 : Int) (V5 : pm_M), ((-9223372036854775808) ≤ x1 ∧ x1 ≤ 9223372036854775807) → (0 ≤ x3 ∧ x3 ≤ 499) → pm_ok 0 90 V5 → pm_fr [79, 80] V0 V5 → (Int.toNat (499 - x3)) = N10 → pm_J X 5 [(0, (3, 79)), (1, (1, a1)), (3, (1, x1)), (5, (0, x3))] [] 118 V5 := by
    intro N10
    induction N10 using Nat.strongRecOn with
    | _ N10 ih11 =>
    intro x1 x3 V5 b2 b4 hV6 hF7 hm9
    refine pm_iload hC 3 dX1_times_5 rfl ?_
    refine pm_aload_n hC 0 (by decide) dX1_times_7 rfl ?_
    obtain ⟨y12, e13⟩ : ∃ y, V5 79 1 = y := ⟨_, rfl⟩
    have b14 := hV6.get 79 1 (lo := 0) (hi := 128) (by decide) (by decide) rfl
    rw [e13] at b14
    refine pm_getf (v := y12) hC 79 fl_X1_13 rfl rfl (by decide) rfl e13 dX1_times_8 ?_
    refine pm_icmp_ge (tgt := 52) hC ⟨by omega, by omega⟩ ⟨by omega, by omega⟩ dX1_times_11 (by decide) (fun c15 => ?_) (fun c15 => ?_)
    · skip
      refine pm_lload_n hC 2 dX1_times_52 rfl ?_
      refine pm_lconst (x := 0) hC dX1_times_53 rfl ?_
      refine pm_lcmp hC ⟨by omega, by omega⟩ ⟨by decide, by decide⟩ dX1_times_54 (fun y16 b17 => ?_)
      refine pm_if_le (tgt := 88) hC ⟨by omega, by omega⟩ dX1_times_55 (by decide) (fun c18 => ?_) (fun c18 => ?_)
      · skip
        exact pm_vret hC hR ⟨rfl, hV6, hF7⟩ dX1_times_88
      · skip
        refine pm_aload_n hC 0 (by decide) dX1_times_58 rfl ?_
        refine pm_getf (v := y12) hC 79 fl_X1_13 rfl rfl (by decide) rfl e13 dX1_times_59 ?_
        refine pm_sipush (v := 128) hC dX1_times_62 (by decide) ?_
        refine pm_icmp_ge (tgt := 88) hC ⟨by omega, by omega⟩ ⟨by decide, by decide⟩ dX1_times_65 (by decide) (fun c19 => ?_) (fun c19 => ?_)
        · skip
          exact pm_vret hC hR ⟨rfl, hV6, hF7⟩ dX1_times_88
        · skip
          refine pm_aload_n hC 0 (by decide) dX1_times_68 rfl ?_
          have e20 : V5 79 0 = 80 := hV6.one 79 0 (by decide) (by decide) rfl
          refine pm_getf (v := 80) hC 79 fl_X1_9 rfl rfl (by decide) rfl e20 dX1_times_69 ?_
          refine pm_aload_n hC 0 (by decide) dX1_times_72 rfl ?_
          refine pm_getf (v := y12) hC 79 fl_X1_13 rfl rfl (by decide) rfl e13 dX1_times_73 ?_
          refine pm_lload_n hC 2 dX1_times_76 rfl ?_
          refine pm_lastore (len := 128) hC 80 rfl rfl (by decide) ⟨by omega, by omega⟩ (by decide) dX1_times_77 ?_
          refine pm_aload_n hC 0 (by decide) dX1_times_78 rfl ?_
          refine pm_dup hC rfl dX1_times_79 ?_
          refine pm_getf (v := y12) hC 79 fl_X1_13 rfl rfl (by decide) rfl e13 dX1_times_80 ?_
          refine pm_iconst (v := 1) hC dX1_times_83 ?_
          refine pm_iadd hC dX1_times_84 ?_
          refine pm_putf hC 79 fl_X1_13 rfl rfl rfl (by decide) rfl trivial dX1_times_85 ?_
          exact pm_vret hC hR ⟨rfl, ((hV6.put 80 (y12 : Int).toNat (x := x1) (lo := (-9223372036854775808)) (hi := 9223372036854775807) rfl ⟨by omega, by omega⟩).put 79 1 (x := (y12 + 1)) (lo := 0) (hi := 128) rfl ⟨by omega, by omega⟩), ((hF7.up 80 (y12 : Int).toNat x1 rfl).up 79 1 (y12 + 1) rfl)⟩ dX1_times_88
    · skip
      refine pm_aload_n hC 0 (by decide) dX1_times_14 rfl ?_
      have e21 : V5 79 0 = 80 := hV6.one 79 0 (by decide) (by decide) rfl
      refine pm_getf (v := 80) hC 79 fl_X1_9 rfl rfl (by decide) rfl e21 dX1_times_15 ?_
      refine pm_iload hC 3 dX1_times_18 rfl ?_
      obtain ⟨y22, e23⟩ : ∃ y, V5 80 (x3 : Int).toNat = y := ⟨_, rfl⟩
      have b24 := hV6.get 80 (x3 : Int).toNat (lo := (-9223372036854775808)) (hi := 9223372036854775807) (by decide) (show _ < 128 by omega) rfl
      rw [e23] at b24
      refine pm_laload (len := 128) (v := y22) hC 80 rfl rfl (by decide) ⟨by omega, by omega⟩ (by decide) e23 dX1_times_20 ?_
      refine pm_lload_n hC 1 dX1_times_21 rfl ?_
      refine pm_lmul hC dX1_times_22 ?_
      refine pm_someL hC (fun y25 b26 => ?_)
      have b26 := And.intro b26.1 b26.2
      refine pm_lload_n hC 2 dX1_times_23 rfl ?_
      refine pm_ladd hC dX1_times_24 ?_
      refine pm_someL hC (fun y27 b28 => ?_)
      have b28 := And.intro b28.1 b28.2
      refine pm_lstore (lv' := [(6, (1, y27)), (0, (3, 79)), (1, (1, a1)), (3, (1, x1)), (5, (0, x3))]) hC dX1_times_25 (by decide) rfl ?_
      refine pm_aload_n hC 1 (by decide) dX1_times_27 rfl ?_
      refine pm_getf (v := 80) hC 79 fl_X1_9 rfl rfl (by decide) rfl e21 dX1_times_28 ?_
      refine pm_iload hC 4 dX1_times_31 rfl ?_
      refine pm_lload hC 0 dX1_times_33 rfl ?_
      refine pm_ldc2 (v := 1073741823) hC 4185 dX1_times_35 (by decide +kernel) ?_
      refine pm_land hC dX1_times_38 ?_
      have b30 := pm_landb (x := y27) (y := 1073741823) (by decide)
      generalize (pm_landV y27 1073741823) = y29 at b30 ⊢
      refine pm_lastore (len := 128) hC 80 rfl rfl (by decide) ⟨by omega, by omega⟩ (by decide) dX1_times_39 ?_
      refine pm_lload hC 0 dX1_times_40 rfl ?_
      refine pm_bipush (v := 30) hC dX1_times_42 (by decide) ?_
      refine pm_lushr hC dX1_times_44 ?_
      have b32 := pm_lushrr y27 30
      generalize (pm_lushrV y27 30) = y31 at b32 ⊢
      refine pm_lstore_n (lv' := [(3, (1, y31)), (6, (1, y27)), (0, (3, 79)), (1, (1, a1)), (5, (0, x3))]) hC dX1_times_45 (by decide) rfl ?_
      obtain ⟨x33, ei34⟩ : ∃ y : Int, x3 + 1 = y := ⟨_, rfl⟩
      refine pm_iinc (y := x33) (lv' := [(5, (0, x33)), (3, (1, y31)), (6, (1, y27)), (0, (3, 79)), (1, (1, a1))]) hC 4 dX1_times_46 (by decide) rfl ei34 rfl ?_
      refine pm_goto (tgt := 5) hC dX1_times_49 (by decide) ?_
      refine pm_lvsub [3, 4, 1, 0] (lv' := [(0, (3, 79)), (1, (1, a1)), (3, (1, y31)), (5, (0, x33))]) rfl ?_
      exact ih11 _ (by omega) y31 x33 (pm_up V5 80 (x3 : Int).toNat y29) ⟨by omega, by omega⟩ ⟨by omega, by omega⟩ (hV6.put 80 (x3 : Int).toNat (x := y29) (lo := (-9223372036854775808)) (hi := 9223372036854775807) rfl ⟨by omega, by omega⟩) (hF7.up 80 (x3 : Int).toNat y29 rfl) rfl
  refine pm_lvsub [2, 3, 1, 0] (lv' := [(0, (3, 79)), (1, (1, a1)), (3, (1, 0)), (5, (0, 0))]) rfl ?_
  exact L8 _ 0 0 V0 ⟨by decide, by decide⟩ ⟨by decide, by decide⟩ hV0 (pm_fr.rf (ws := [79, 80]) (V := V0)) rfl
set_option maxHeartbeats 4000000 in
set_option maxRecDepth 100000 in
theorem c_X1_times_81 (a1 : Int) (h0 : (-9223372036854775808) ≤ a1 ∧ a1 ≤ 9223372036854775807) : pm_K 1 yX1_times cX1_times 8 none (fun av V => av = [(3, 81), (1, a1)] ∧ pm_ok 0 90 V) (fun _ V r V' => r = none ∧ pm_ok 0 90 V' ∧ pm_fr [81, 82] V V') := by
  refine pm_MT.of (by decide) ⟨Nat.le_refl _, by decide⟩ (fun av V h => by rw [h.1]; exact (by decide : pm_words [(3, 0), (1, 0)] ≤ 8)) ?_
  rintro X av V0 hC - hR ⟨rfl, hV0⟩
  change pm_J X 0 [(0, (3, 81)), (1, (1, a1))] [] 118 V0
  refine pm_lconst (x := 0) hC dX1_times_0 rfl ?_
  refine pm_lstore_n (lv' := [(3, (1, 0)), (0, (3, 81)), (1, (1, a1))]) hC dX1_times_1 (by decide) rfl ?_
  refine pm_iconst (v := 0) hC dX1_times_2 ?_
  refine pm_istore (lv' := [(5, (0, 0)), (3, (1, 0)), (0, (3, 81)), (1, (1, a1))]) hC dX1_times_3 (by decide) rfl ?_
  have L8 : ∀ (N10 : Nat) (x1 : Int) (x3 : Int) (V5 : pm_M), ((-9223372036854775808) ≤ x1 ∧ x1 ≤ 9223372036854775807) → (0 ≤ x3 ∧ x3 ≤ 499) → pm_ok 0 90 V5 → pm_fr [81, 82] V0 V5 → (Int.toNat (499 - x3)) = N10 → pm_J X 5 [(0, (3, 81)), (1, (1, a1)), (3, (1, x1)), (5, (0, x3))] [] 118 V5 := by
    intro N10
    induction N10 using Nat.strongRecOn with
    | _ N10 ih11 =>
    intro x1 x3 V5 b2 b4 hV6 hF7 hm9
    refine pm_iload hC 3 dX1_times_5 rfl ?_
    refine pm_aload_n hC 0 (by decide) dX1_times_7 rfl ?_
    obtain ⟨y12, e13⟩ : ∃ y, V5 81 1 = y := ⟨_, rfl⟩
    have b14 := hV6.get 81 1 (lo := 0) (hi := 128) (by decide) (by decide) rfl
    rw [e13] at b14
    refine pm_getf (v := y12) hC 81 fl_X1_13 rfl rfl (by decide) rfl e13 dX1_times_8 ?_
    refine pm_icmp_ge (tgt := 52) hC ⟨by omega, by omega⟩ ⟨by omega, by omega⟩ dX1_times_11 (by decide) (fun c15 => ?_) (fun c15 => ?_)
    · skip
      refine pm_lload_n hC 2 dX1_times_52 rfl ?_
      refine pm_lconst (x := 0) hC dX1_times_53 rfl ?_
      refine pm_lcmp hC ⟨by omega, by omega⟩ ⟨by decide, by decide⟩ dX1_times_54 (fun y16 b17 => ?_)
      refine pm_if_le (tgt := 88) hC ⟨by omega, by omega⟩ dX1_times_55 (by decide) (fun c18 => ?_) (fun c18 => ?_)
      · skip
        exact pm_vret hC hR ⟨rfl, hV6, hF7⟩ dX1_times_88
      · skip
        refine pm_aload_n hC 0 (by decide) dX1_times_58 rfl ?_
        refine pm_getf (v := y12) hC 81 fl_X1_13 rfl rfl (by decide) rfl e13 dX1_times_59 ?_
        refine pm_sipush (v := 128) hC dX1_times_62 (by decide) ?_
        refine pm_icmp_ge (tgt := 88) hC ⟨by omega, by omega⟩ ⟨by decide, by decide⟩ dX1_times_65 (by decide) (fun c19 => ?_) (fun c19 => ?_)
        · skip
          exact pm_vret hC hR ⟨rfl, hV6, hF7⟩ dX1_times_88
        · skip
          refine pm_aload_n hC 0 (by decide) dX1_times_68 rfl ?_
          have e20 : V5 81 0 = 82 := hV6.one 81 0 (by decide) (by decide) rfl
          refine pm_getf (v := 82) hC 81 fl_X1_9 rfl rfl (by decide) rfl e20 dX1_times_69 ?_
          refine pm_aload_n hC 0 (by decide) dX1_times_72 rfl ?_
          refine pm_getf (v := y12) hC 81 fl_X1_13 rfl rfl (by decide) rfl e13 dX1_times_73 ?_
          refine pm_lload_n hC 2 dX1_times_76 rfl ?_
          refine pm_lastore (len := 128) hC 82 rfl rfl (by decide) ⟨by omega, by omega⟩ (by decide) dX1_times_77 ?_
          refine pm_aload_n hC 0 (by decide) dX1_times_78 rfl ?_
          refine pm_dup hC rfl dX1_times_79 ?_
          refine pm_getf (v := y12) hC 81 fl_X1_13 rfl rfl (by decide) rfl e13 dX1_times_80 ?_
          refine pm_iconst (v := 1) hC dX1_times_83 ?_
          refine pm_iadd hC dX1_times_84 ?_
          refine pm_putf hC 81 fl_X1_13 rfl rfl rfl (by decide) rfl trivial dX1_times_85 ?_
          exact pm_vret hC hR ⟨rfl, ((hV6.put 82 (y12 : Int).toNat (x := x1) (lo := (-9223372036854775808)) (hi := 9223372036854775807) rfl ⟨by omega, by omega⟩).put 81 1 (x := (y12 + 1)) (lo := 0) (hi := 128) rfl ⟨by omega, by omega⟩), ((hF7.up 82 (y12 : Int).toNat x1 rfl).up 81 1 (y12 + 1) rfl)⟩ dX1_times_88
    · skip
      refine pm_aload_n hC 0 (by decide) dX1_times_14 rfl ?_
      have e21 : V5 81 0 = 82 := hV6.one 81 0 (by decide) (by decide) rfl
      refine pm_getf (v := 82) hC 81 fl_X1_9 rfl rfl (by decide) rfl e21 dX1_times_15 ?_
      refine pm_iload hC 3 dX1_times_18 rfl ?_
      obtain ⟨y22, e23⟩ : ∃ y, V5 82 (x3 : Int).toNat = y := ⟨_, rfl⟩
      have b24 := hV6.get 82 (x3 : Int).toNat (lo := (-9223372036854775808)) (hi := 9223372036854775807) (by decide) (show _ < 128 by omega) rfl
      rw [e23] at b24
      refine pm_laload (len := 128) (v := y22) hC 82 rfl rfl (by decide) ⟨by omega, by omega⟩ (by decide) e23 dX1_times_20 ?_
      refine pm_lload_n hC 1 dX1_times_21 rfl ?_
      refine pm_lmul hC dX1_times_22 ?_
      refine pm_someL hC (fun y25 b26 => ?_)
      have b26 := And.intro b26.1 b26.2
      refine pm_lload_n hC 2 dX1_times_23 rfl ?_
      refine pm_ladd hC dX1_times_24 ?_
      refine pm_someL hC (fun y27 b28 => ?_)
      have b28 := And.intro b28.1 b28.2
      refine pm_lstore (lv' := [(6, (1, y27)), (0, (3, 81)), (1, (1, a1)), (3, (1, x1)), (5, (0, x3))]) hC dX1_times_25 (by decide) rfl ?_
      refine pm_aload_n hC 1 (by decide) dX1_times_27 rfl ?_
      refine pm_getf (v := 82) hC 81 fl_X1_9 rfl rfl (by decide) rfl e21 dX1_times_28 ?_
      refine pm_iload hC 4 dX1_times_31 rfl ?_
      refine pm_lload hC 0 dX1_times_33 rfl ?_
      refine pm_ldc2 (v := 1073741823) hC 4185 dX1_times_35 (by decide +kernel) ?_
      refine pm_land hC dX1_times_38 ?_
      have b30 := pm_landb (x := y27) (y := 1073741823) (by decide)
      generalize (pm_landV y27 1073741823) = y29 at b30 ⊢
      refine pm_lastore (len := 128) hC 82 rfl rfl (by decide) ⟨by omega, by omega⟩ (by decide) dX1_times_39 ?_
      refine pm_lload hC 0 dX1_times_40 rfl ?_
      refine pm_bipush (v := 30) hC dX1_times_42 (by decide) ?_
      refine pm_lushr hC dX1_times_44 ?_
      have b32 := pm_lushrr y27 30
      generalize (pm_lushrV y27 30) = y31 at b32 ⊢
      refine pm_lstore_n (lv' := [(3, (1, y31)), (6, (1, y27)), (0, (3, 81)), (1, (1, a1)), (5, (0, x3))]) hC dX1_times_45 (by decide) rfl ?_
      obtain ⟨x33, ei34⟩ : ∃ y : Int, x3 + 1 = y := ⟨_, rfl⟩
      refine pm_iinc (y := x33) (lv' := [(5, (0, x33)), (3, (1, y31)), (6, (1, y27)), (0, (3, 81)), (1, (1, a1))]) hC 4 dX1_times_46 (by decide) rfl ei34 rfl ?_
      refine pm_goto (tgt := 5) hC dX1_times_49 (by decide) ?_
      refine pm_lvsub [3, 4, 1, 0] (lv' := [(0, (3, 81)), (1, (1, a1)), (3, (1, y31)), (5, (0, x33))]) rfl ?_
      exact ih11 _ (by omega) y31 x33 (pm_up V5 82 (x3 : Int).toNat y29) ⟨by omega, by omega⟩ ⟨by omega, by omega⟩ (hV6.put 82 (x3 : Int).toNat (x := y29) (lo := (-9223372036854775808)) (hi := 9223372036854775807) rfl ⟨by omega, by omega⟩) (hF7.up 82 (x3 : Int).toNat y29 rfl) rfl
  refine pm_lvsub [2, 3, 1, 0] (lv' := [(0, (3, 81)), (1, (1, a1)), (3, (1, 0)), (5, (0, 0))]) rfl ?_
  exact L8 _ 0 0 V0 ⟨by decide, by decide⟩ ⟨by decide, by decide⟩ hV0 (pm_fr.rf (ws := [81, 82]) (V := V0)) rfl
set_option maxHeartbeats 4000000 in
set_option maxRecDepth 100000 in
theorem c_X4_compareExactly_78_84_84 (a1 : Int) (h0 : 0 ≤ a1 ∧ a1 ≤ 60) : pm_K 2 yX4_compareExactly cX4_compareExactly 5 (some .int) (fun av V => av = [(3, 78), (3, 84), (3, 84), (0, a1)] ∧ pm_ok 0 90 V) (fun _ V r V' => ∃ y, r = some (0, y) ∧ ((-1) ≤ y ∧ y ≤ 1) ∧ pm_ok 0 90 V' ∧ pm_fr [79, 80, 81, 82] V V') := by
  refine pm_MT.of (by decide) ⟨Nat.le_refl _, by decide⟩ (fun av V h => by rw [h.1]; exact (by decide : pm_words [(3, 0), (3, 0), (3, 0), (0, 0)] ≤ 5)) ?_
  rintro X av V0 hC - hR ⟨rfl, hV0⟩
  change pm_J X 0 [(0, (3, 78)), (1, (3, 84)), (2, (3, 84)), (3, (0, a1))] [] 118 V0
  refine pm_aload_n hC 0 (by decide) dX4_compareExactly_0 rfl ?_
  have e1 : V0 78 0 = 79 := hV0.one 78 0 (by decide) (by decide) rfl
  refine pm_getf (v := 79) hC 78 fl_X4_10 rfl rfl (by decide) rfl e1 dX4_compareExactly_1 ?_
  refine pm_callV (ci := 1) (as := []) (st := []) hC 79 c_X1_begin_79 lm_X4_62 li_X1_begin (by decide) (by decide) rfl rfl rfl (by decide) rfl rfl (Nat.le_of_ble_eq_true rfl) ⟨Nat.le_refl _, Or.inl rfl⟩ dX4_compareExactly_4 ⟨rfl, hV0⟩ (fun r2 V3 hp4 => ?_)
  obtain ⟨rfl, hV5, hF6⟩ := hp4
  change pm_J X 7 [(0, (3, 78)), (1, (3, 84)), (2, (3, 84)), (3, (0, a1))] [] 118 V3
  have hF7 := pm_fr.tr (pm_fr.rf (ws := [79, 80, 81, 82]) (V := V0)) hF6 (by decide)
  have e8 : V3 78 0 = 79 := by rw [hF6 78 (by decide)]; exact e1
  refine pm_aload_n hC 0 (by decide) dX4_compareExactly_7 rfl ?_
  have e9 : V3 78 1 = 81 := hV5.one 78 1 (by decide) (by decide) rfl
  refine pm_getf (v := 81) hC 78 fl_X4_16 rfl rfl (by decide) rfl e9 dX4_compareExactly_8 ?_
  refine pm_callV (ci := 1) (as := []) (st := []) hC 81 c_X1_begin_81 lm_X4_62 li_X1_begin (by decide) (by decide) rfl rfl rfl (by decide) rfl rfl (Nat.le_of_ble_eq_true rfl) ⟨Nat.le_refl _, Or.inl rfl⟩ dX4_compareExactly_11 ⟨rfl, hV5⟩ (fun r10 V11 hp12 => ?_)
  obtain ⟨rfl, hV13, hF14⟩ := hp12
  change pm_J X 14 [(0, (3, 78)), (1, (3, 84)), (2, (3, 84)), (3, (0, a1))] [] 118 V11
  have hF15 := pm_fr.tr hF7 hF14 (by decide)
  have e16 : V11 78 0 = 79 := by rw [hF14 78 (by decide)]; exact e8
  have e17 : V11 78 1 = 81 := by rw [hF14 78 (by decide)]; exact e9
  refine pm_iconst (v := 0) hC dX4_compareExactly_14 ?_
  refine pm_istore (lv' := [(4, (0, 0)), (0, (3, 78)), (1, (3, 84)), (2, (3, 84)), (3, (0, a1))]) hC dX4_compareExactly_15 (by decide) rfl ?_
  have L25 : ∀ (N27 : Nat) (x18 : Int) (V20 : pm_M), (0 ≤ x18 ∧ x18 ≤ 60) → pm_ok 0 90 V20 → pm_fr [79, 80, 81, 82] V0 V20 → V20 78 0 = 79 → V20 78 1 = 81 → (Int.toNat (60 - x18)) = N27 → pm_J X 17 [(0, (3, 78)), (1, (3, 84)), (2, (3, 84)), (3, (0, a1)), (4, (0, x18))] [] 118 V20 := by
    intro N27
    induction N27 using Nat.strongRecOn with
    | _ N27 ih28 =>
    intro x18 V20 b19 hV21 hF22 e23 e24 hm26
    refine pm_iload hC 4 dX4_compareExactly_17 rfl ?_
    refine pm_iload_n hC 3 dX4_compareExactly_19 rfl ?_
    refine pm_icmp_ge (tgt := 119) hC ⟨by omega, by omega⟩ ⟨by omega, by omega⟩ dX4_compareExactly_20 (by decide) (fun c29 => ?_) (fun c29 => ?_)
    · skip
      refine pm_aload_n hC 0 (by decide) dX4_compareExactly_119 rfl ?_
      refine pm_getf (v := 79) hC 78 fl_X4_10 rfl rfl (by decide) rfl e23 dX4_compareExactly_120 ?_
      refine pm_aload_n hC 0 (by decide) dX4_compareExactly_123 rfl ?_
      refine pm_getf (v := 81) hC 78 fl_X4_16 rfl rfl (by decide) rfl e24 dX4_compareExactly_124 ?_
      refine pm_callV (ci := 1) (as := [(3, 81)]) (st := []) hC 79 c_X1_compareWith_79_81 lm_X4_69 li_X1_compareWith (by decide) (by decide) rfl rfl rfl (by decide) rfl rfl (Nat.le_of_ble_eq_true rfl) ⟨Nat.le_refl _, Or.inl rfl⟩ dX4_compareExactly_127 ⟨rfl, hV21⟩ (fun r30 V31 hp32 => ?_)
      obtain ⟨y33, rfl, b34, rfl⟩ := hp32
      change pm_J X 130 [(0, (3, 78)), (1, (3, 84)), (2, (3, 84)), (3, (0, a1)), (4, (0, x18))] [(0, y33)] 118 V20
      exact pm_iret hC hR pm_nar0 ⟨y33, rfl, ⟨by omega, by omega⟩, hV21, hF22⟩ dX4_compareExactly_130
    · skip
      refine pm_aload_n hC 1 (by decide) dX4_compareExactly_23 rfl ?_
      have e35 : V20 84 1 = 85 := hV21.one 84 1 (by decide) (by decide) rfl
      refine pm_getf (v := 85) hC 84 fl_X4_51 rfl rfl (by decide) rfl e35 dX4_compareExactly_24 ?_
      refine pm_iload hC 4 dX4_compareExactly_27 rfl ?_
      obtain ⟨y36, e37⟩ : ∃ y, V20 85 (x18 : Int).toNat = y := ⟨_, rfl⟩
      have b38 := hV21.get 85 (x18 : Int).toNat (lo := (-9223372036854775808)) (hi := 9223372036854775807) (by decide) (show _ < 60 by omega) rfl
      rw [e37] at b38
      refine pm_laload (len := 60) (v := y36) hC 85 rfl rfl (by decide) ⟨by omega, by omega⟩ (by decide) e37 dX4_compareExactly_29 ?_
      refine pm_aload_n hC 2 (by decide) dX4_compareExactly_30 rfl ?_
      have e39 : V20 84 2 = 86 := hV21.one 84 2 (by decide) (by decide) rfl
      refine pm_getf (v := 86) hC 84 fl_X4_55 rfl rfl (by decide) rfl e39 dX4_compareExactly_31 ?_
      refine pm_iload hC 4 dX4_compareExactly_34 rfl ?_
      obtain ⟨y40, e41⟩ : ∃ y, V20 86 (x18 : Int).toNat = y := ⟨_, rfl⟩
      have b42 := hV21.get 86 (x18 : Int).toNat (lo := (-9223372036854775808)) (hi := 9223372036854775807) (by decide) (show _ < 60 by omega) rfl
      rw [e41] at b42
      refine pm_laload (len := 60) (v := y40) hC 86 rfl rfl (by decide) ⟨by omega, by omega⟩ (by decide) e41 dX4_compareExactly_36 ?_
      refine pm_lmul hC dX4_compareExactly_37 ?_
      refine pm_someL hC (fun y43 b44 => ?_)
      have b44 := And.intro b44.1 b44.2
      refine pm_aload_n hC 2 (by decide) dX4_compareExactly_38 rfl ?_
      refine pm_getf (v := 85) hC 84 fl_X4_51 rfl rfl (by decide) rfl e35 dX4_compareExactly_39 ?_
      refine pm_iload hC 4 dX4_compareExactly_42 rfl ?_
      refine pm_laload (len := 60) (v := y36) hC 85 rfl rfl (by decide) ⟨by omega, by omega⟩ (by decide) e37 dX4_compareExactly_44 ?_
      refine pm_aload_n hC 1 (by decide) dX4_compareExactly_45 rfl ?_
      refine pm_getf (v := 86) hC 84 fl_X4_55 rfl rfl (by decide) rfl e39 dX4_compareExactly_46 ?_
      refine pm_iload hC 4 dX4_compareExactly_49 rfl ?_
      refine pm_laload (len := 60) (v := y40) hC 86 rfl rfl (by decide) ⟨by omega, by omega⟩ (by decide) e41 dX4_compareExactly_51 ?_
      refine pm_lmul hC dX4_compareExactly_52 ?_
      refine pm_someL hC (fun y45 b46 => ?_)
      have b46 := And.intro b46.1 b46.2
      refine pm_lcmp hC ⟨by omega, by omega⟩ ⟨by omega, by omega⟩ dX4_compareExactly_53 (fun y47 b48 => ?_)
      refine pm_if_eq (tgt := 113) hC ⟨by omega, by omega⟩ dX4_compareExactly_54 (by decide) (fun c49 => ?_) (fun c49 => ?_)
      · skip
        obtain ⟨x50, ei51⟩ : ∃ y : Int, x18 + 1 = y := ⟨_, rfl⟩
        refine pm_iinc (y := x50) (lv' := [(4, (0, x50)), (0, (3, 78)), (1, (3, 84)), (2, (3, 84)), (3, (0, a1))]) hC 4 dX4_compareExactly_113 (by decide) rfl ei51 rfl ?_
        refine pm_goto (tgt := 17) hC dX4_compareExactly_116 (by decide) ?_
        refine pm_lvsub [1, 2, 3, 4, 0] (lv' := [(0, (3, 78)), (1, (3, 84)), (2, (3, 84)), (3, (0, a1)), (4, (0, x50))]) rfl ?_
        exact ih28 _ (by omega) x50 V20 ⟨by omega, by omega⟩ hV21 hF22 e23 e24 rfl
      · skip
        refine pm_aload_n hC 0 (by decide) dX4_compareExactly_57 rfl ?_
        refine pm_getf (v := 79) hC 78 fl_X4_10 rfl rfl (by decide) rfl e23 dX4_compareExactly_58 ?_
        refine pm_aload_n hC 1 (by decide) dX4_compareExactly_61 rfl ?_
        refine pm_getf (v := 85) hC 84 fl_X4_51 rfl rfl (by decide) rfl e35 dX4_compareExactly_62 ?_
        refine pm_iload hC 4 dX4_compareExactly_65 rfl ?_
        refine pm_laload (len := 60) (v := y36) hC 85 rfl rfl (by decide) ⟨by omega, by omega⟩ (by decide) e37 dX4_compareExactly_67 ?_
        refine pm_callV (ci := 1) (as := [(1, y36)]) (st := []) hC 79 (c_X1_times_79 y36 ⟨by omega, by omega⟩) lm_X4_65 li_X1_times (by decide) (by decide) rfl rfl rfl (by decide) rfl rfl (Nat.le_of_ble_eq_true rfl) ⟨Nat.le_refl _, Or.inl rfl⟩ dX4_compareExactly_68 ⟨rfl, hV21⟩ (fun r52 V53 hp54 => ?_)
        obtain ⟨rfl, hV55, hF56⟩ := hp54
        change pm_J X 71 [(0, (3, 78)), (1, (3, 84)), (2, (3, 84)), (3, (0, a1)), (4, (0, x18))] [] 118 V53
        have hF57 := pm_fr.tr hF22 hF56 (by decide)
        have e58 : V53 78 0 = 79 := by rw [hF56 78 (by decide)]; exact e23
        have e59 : V53 78 1 = 81 := by rw [hF56 78 (by decide)]; exact e24
        have e60 : V53 84 1 = 85 := by rw [hF56 84 (by decide)]; exact e35
        have e61 : V53 84 2 = 86 := by rw [hF56 84 (by decide)]; exact e39
        refine pm_aload_n hC 0 (by decide) dX4_compareExactly_71 rfl ?_
        refine pm_getf (v := 79) hC 78 fl_X4_10 rfl rfl (by decide) rfl e58 dX4_compareExactly_72 ?_
        refine pm_aload_n hC 2 (by decide) dX4_compareExactly_75 rfl ?_
        refine pm_getf (v := 86) hC 84 fl_X4_55 rfl rfl (by decide) rfl e61 dX4_compareExactly_76 ?_
        refine pm_iload hC 4 dX4_compareExactly_79 rfl ?_
        obtain ⟨y62, e63⟩ : ∃ y, V53 86 (x18 : Int).toNat = y := ⟨_, rfl⟩
        have b64 := hV55.get 86 (x18 : Int).toNat (lo := (-9223372036854775808)) (hi := 9223372036854775807) (by decide) (show _ < 60 by omega) rfl
        rw [e63] at b64
        refine pm_laload (len := 60) (v := y62) hC 86 rfl rfl (by decide) ⟨by omega, by omega⟩ (by decide) e63 dX4_compareExactly_81 ?_
        refine pm_callV (ci := 1) (as := [(1, y62)]) (st := []) hC 79 (c_X1_times_79 y62 ⟨by omega, by omega⟩) lm_X4_65 li_X1_times (by decide) (by decide) rfl rfl rfl (by decide) rfl rfl (Nat.le_of_ble_eq_true rfl) ⟨Nat.le_refl _, Or.inl rfl⟩ dX4_compareExactly_82 ⟨rfl, hV55⟩ (fun r65 V66 hp67 => ?_)
        obtain ⟨rfl, hV68, hF69⟩ := hp67
        change pm_J X 85 [(0, (3, 78)), (1, (3, 84)), (2, (3, 84)), (3, (0, a1)), (4, (0, x18))] [] 118 V66
        have hF70 := pm_fr.tr hF57 hF69 (by decide)
        have e71 : V66 78 0 = 79 := by rw [hF69 78 (by decide)]; exact e58
        have e72 : V66 78 1 = 81 := by rw [hF69 78 (by decide)]; exact e59
        have e73 : V66 84 1 = 85 := by rw [hF69 84 (by decide)]; exact e60
        have e74 : V66 84 2 = 86 := by rw [hF69 84 (by decide)]; exact e61
        refine pm_aload_n hC 0 (by decide) dX4_compareExactly_85 rfl ?_
        refine pm_getf (v := 81) hC 78 fl_X4_16 rfl rfl (by decide) rfl e72 dX4_compareExactly_86 ?_
        refine pm_aload_n hC 2 (by decide) dX4_compareExactly_89 rfl ?_
        refine pm_getf (v := 85) hC 84 fl_X4_51 rfl rfl (by decide) rfl e73 dX4_compareExactly_90 ?_
        refine pm_iload hC 4 dX4_compareExactly_93 rfl ?_
        obtain ⟨y75, e76⟩ : ∃ y, V66 85 (x18 : Int).toNat = y := ⟨_, rfl⟩
        have b77 := hV68.get 85 (x18 : Int).toNat (lo := (-9223372036854775808)) (hi := 9223372036854775807) (by decide) (show _ < 60 by omega) rfl
        rw [e76] at b77
        refine pm_laload (len := 60) (v := y75) hC 85 rfl rfl (by decide) ⟨by omega, by omega⟩ (by decide) e76 dX4_compareExactly_95 ?_
        refine pm_callV (ci := 1) (as := [(1, y75)]) (st := []) hC 81 (c_X1_times_81 y75 ⟨by omega, by omega⟩) lm_X4_65 li_X1_times (by decide) (by decide) rfl rfl rfl (by decide) rfl rfl (Nat.le_of_ble_eq_true rfl) ⟨Nat.le_refl _, Or.inl rfl⟩ dX4_compareExactly_96 ⟨rfl, hV68⟩ (fun r78 V79 hp80 => ?_)
        obtain ⟨rfl, hV81, hF82⟩ := hp80
        change pm_J X 99 [(0, (3, 78)), (1, (3, 84)), (2, (3, 84)), (3, (0, a1)), (4, (0, x18))] [] 118 V79
        have hF83 := pm_fr.tr hF70 hF82 (by decide)
        have e84 : V79 78 0 = 79 := by rw [hF82 78 (by decide)]; exact e71
        have e85 : V79 78 1 = 81 := by rw [hF82 78 (by decide)]; exact e72
        have e86 : V79 84 1 = 85 := by rw [hF82 84 (by decide)]; exact e73
        have e87 : V79 84 2 = 86 := by rw [hF82 84 (by decide)]; exact e74
        refine pm_aload_n hC 0 (by decide) dX4_compareExactly_99 rfl ?_
        refine pm_getf (v := 81) hC 78 fl_X4_16 rfl rfl (by decide) rfl e85 dX4_compareExactly_100 ?_
        refine pm_aload_n hC 1 (by decide) dX4_compareExactly_103 rfl ?_
        refine pm_getf (v := 86) hC 84 fl_X4_55 rfl rfl (by decide) rfl e87 dX4_compareExactly_104 ?_
        refine pm_iload hC 4 dX4_compareExactly_107 rfl ?_
        obtain ⟨y88, e89⟩ : ∃ y, V79 86 (x18 : Int).toNat = y := ⟨_, rfl⟩
        have b90 := hV81.get 86 (x18 : Int).toNat (lo := (-9223372036854775808)) (hi := 9223372036854775807) (by decide) (show _ < 60 by omega) rfl
        rw [e89] at b90
        refine pm_laload (len := 60) (v := y88) hC 86 rfl rfl (by decide) ⟨by omega, by omega⟩ (by decide) e89 dX4_compareExactly_109 ?_
        refine pm_callV (ci := 1) (as := [(1, y88)]) (st := []) hC 81 (c_X1_times_81 y88 ⟨by omega, by omega⟩) lm_X4_65 li_X1_times (by decide) (by decide) rfl rfl rfl (by decide) rfl rfl (Nat.le_of_ble_eq_true rfl) ⟨Nat.le_refl _, Or.inl rfl⟩ dX4_compareExactly_110 ⟨rfl, hV81⟩ (fun r91 V92 hp93 => ?_)
        obtain ⟨rfl, hV94, hF95⟩ := hp93
        change pm_J X 113 [(0, (3, 78)), (1, (3, 84)), (2, (3, 84)), (3, (0, a1)), (4, (0, x18))] [] 118 V92
        have hF96 := pm_fr.tr hF83 hF95 (by decide)
        have e97 : V92 78 0 = 79 := by rw [hF95 78 (by decide)]; exact e84
        have e98 : V92 78 1 = 81 := by rw [hF95 78 (by decide)]; exact e85
        have e99 : V92 84 1 = 85 := by rw [hF95 84 (by decide)]; exact e86
        have e100 : V92 84 2 = 86 := by rw [hF95 84 (by decide)]; exact e87
        obtain ⟨x101, ei102⟩ : ∃ y : Int, x18 + 1 = y := ⟨_, rfl⟩
        refine pm_iinc (y := x101) (lv' := [(4, (0, x101)), (0, (3, 78)), (1, (3, 84)), (2, (3, 84)), (3, (0, a1))]) hC 4 dX4_compareExactly_113 (by decide) rfl ei102 rfl ?_
        refine pm_goto (tgt := 17) hC dX4_compareExactly_116 (by decide) ?_
        refine pm_lvsub [1, 2, 3, 4, 0] (lv' := [(0, (3, 78)), (1, (3, 84)), (2, (3, 84)), (3, (0, a1)), (4, (0, x101))]) rfl ?_
        exact ih28 _ (by omega) x101 V92 ⟨by omega, by omega⟩ hV94 hF96 e97 e98 rfl
  refine pm_lvsub [1, 2, 3, 4, 0] (lv' := [(0, (3, 78)), (1, (3, 84)), (2, (3, 84)), (3, (0, a1)), (4, (0, 0))]) rfl ?_
  exact L25 _ 0 V11 ⟨by decide, by decide⟩ hV13 hF15 e16 e17 rfl
set_option maxHeartbeats 4000000 in
set_option maxRecDepth 100000 in
theorem c_X4_compareProducts_78_84_84  : pm_K 3 yX4_compareProducts cX4_compareProducts 8 (some .int) (fun av V => av = [(3, 78), (3, 84), (3, 84)] ∧ pm_ok 0 90 V) (fun _ V r V' => ∃ y, r = some (0, y) ∧ ((-1) ≤ y ∧ y ≤ 1) ∧ pm_ok 0 90 V' ∧ pm_fr [79, 80, 81, 82] V V') := by
  refine pm_MT.of (by decide) ⟨Nat.le_refl _, by decide⟩ (fun av V h => by rw [h.1]; exact (by decide : pm_words [(3, 0), (3, 0), (3, 0)] ≤ 8)) ?_
  rintro X av V0 hC - hR ⟨rfl, hV0⟩
  change pm_J X 0 [(0, (3, 78)), (1, (3, 84)), (2, (3, 84))] [] 118 V0
  refine pm_aload_n hC 1 (by decide) dX4_compareProducts_0 rfl ?_
  refine pm_callV (ci := 0) (as := []) (st := []) hC 84 c_X0_isNever_84 lm_X4_19 li_X0_isNever (by decide) (by decide) rfl rfl rfl (by decide) rfl rfl (Nat.le_of_ble_eq_true rfl) ⟨Nat.le_refl _, Or.inl rfl⟩ dX4_compareProducts_1 ⟨rfl, hV0⟩ (fun r1 V2 hp3 => ?_)
  obtain ⟨y4, rfl, b5, rfl⟩ := hp3
  change pm_J X 4 [(0, (3, 78)), (1, (3, 84)), (2, (3, 84))] [(0, y4)] 118 V0
  refine pm_istore_n (lv' := [(3, (0, y4)), (0, (3, 78)), (1, (3, 84)), (2, (3, 84))]) hC dX4_compareProducts_4 (by decide) rfl ?_
  refine pm_aload_n hC 3 (by decide) dX4_compareProducts_5 rfl ?_
  refine pm_callV (ci := 0) (as := []) (st := []) hC 84 c_X0_isNever_84 lm_X4_19 li_X0_isNever (by decide) (by decide) rfl rfl rfl (by decide) rfl rfl (Nat.le_of_ble_eq_true rfl) ⟨Nat.le_refl _, Or.inl rfl⟩ dX4_compareProducts_6 ⟨rfl, hV0⟩ (fun r6 V7 hp8 => ?_)
  obtain ⟨y9, rfl, b10, rfl⟩ := hp8
  change pm_J X 9 [(3, (0, y4)), (0, (3, 78)), (1, (3, 84)), (2, (3, 84))] [(0, y9)] 118 V0
  refine pm_istore (lv' := [(4, (0, y9)), (3, (0, y4)), (0, (3, 78)), (1, (3, 84)), (2, (3, 84))]) hC dX4_compareProducts_9 (by decide) rfl ?_
  refine pm_iload_n hC 1 dX4_compareProducts_11 rfl ?_
  refine pm_if_ne (tgt := 20) hC ⟨by omega, by omega⟩ dX4_compareProducts_12 (by decide) (fun c11 => ?_) (fun c11 => ?_)
  · skip
    refine pm_iload hC 0 dX4_compareProducts_20 rfl ?_
    refine pm_if_eq (tgt := 29) hC ⟨by omega, by omega⟩ dX4_compareProducts_22 (by decide) (fun c12 => ?_) (fun c12 => ?_)
    · skip
      refine pm_iconst (v := 0) hC dX4_compareProducts_29 ?_
      refine pm_iload_n hC 1 dX4_compareProducts_30 rfl ?_
      refine pm_if_eq (tgt := 38) hC ⟨by omega, by omega⟩ dX4_compareProducts_31 (by decide) (fun c13 => ?_) (fun c13 => ?_)
      · skip
        exfalso; omega
      · skip
        refine pm_iconst (v := 1) hC dX4_compareProducts_34 ?_
        refine pm_goto (tgt := 39) hC dX4_compareProducts_35 (by decide) ?_
        refine pm_isub hC dX4_compareProducts_39 ?_
        change pm_J X 40 [(4, (0, y9)), (3, (0, y4)), (0, (3, 78)), (1, (3, 84)), (2, (3, 84))] [(0, (-1))] 118 V0
        exact pm_iret hC hR pm_nar0 ⟨(-1), rfl, ⟨by omega, by omega⟩, hV0, (pm_fr.rf (ws := [79, 80, 81, 82]) (V := V0))⟩ dX4_compareProducts_40
    · skip
      refine pm_iconst (v := 1) hC dX4_compareProducts_25 ?_
      refine pm_goto (tgt := 30) hC dX4_compareProducts_26 (by decide) ?_
      refine pm_iload_n hC 1 dX4_compareProducts_30 rfl ?_
      refine pm_if_eq (tgt := 38) hC ⟨by omega, by omega⟩ dX4_compareProducts_31 (by decide) (fun c14 => ?_) (fun c14 => ?_)
      · skip
        exfalso; omega
      · skip
        refine pm_iconst (v := 1) hC dX4_compareProducts_34 ?_
        refine pm_goto (tgt := 39) hC dX4_compareProducts_35 (by decide) ?_
        refine pm_isub hC dX4_compareProducts_39 ?_
        change pm_J X 40 [(4, (0, y9)), (3, (0, y4)), (0, (3, 78)), (1, (3, 84)), (2, (3, 84))] [(0, 0)] 118 V0
        exact pm_iret hC hR pm_nar0 ⟨0, rfl, ⟨by omega, by omega⟩, hV0, (pm_fr.rf (ws := [79, 80, 81, 82]) (V := V0))⟩ dX4_compareProducts_40
  · skip
    refine pm_iload hC 0 dX4_compareProducts_15 rfl ?_
    refine pm_if_eq (tgt := 41) hC ⟨by omega, by omega⟩ dX4_compareProducts_17 (by decide) (fun c15 => ?_) (fun c15 => ?_)
    · skip
      refine pm_aload_n hC 3 (by decide) dX4_compareProducts_41 rfl ?_
      obtain ⟨y16, e17⟩ : ∃ y, V0 84 0 = y := ⟨_, rfl⟩
      have b18 := hV0.get 84 0 (lo := 0) (hi := 60) (by decide) (by decide) rfl
      rw [e17] at b18
      refine pm_getf (v := y16) hC 84 fl_X4_25 rfl rfl (by decide) rfl e17 dX4_compareProducts_42 ?_
      refine pm_aload_n hC 4 (by decide) dX4_compareProducts_45 rfl ?_
      refine pm_getf (v := y16) hC 84 fl_X4_25 rfl rfl (by decide) rfl e17 dX4_compareProducts_46 ?_
      refine pm_mmin hC 4159 4160 1018 4161 ⟨by omega, by omega⟩ ⟨by omega, by omega⟩ (by decide) wL_X4_29 wS_mmin wI_math wC_mmin (Nat.le_of_ble_eq_true rfl) dX4_compareProducts_49 (fun y19 b20 => ?_)
      refine pm_istore (lv' := [(5, (0, y19)), (4, (0, y9)), (3, (0, y4)), (0, (3, 78)), (1, (3, 84)), (2, (3, 84))]) hC dX4_compareProducts_52 (by decide) rfl ?_
      refine pm_aload_n hC 4 (by decide) dX4_compareProducts_54 rfl ?_
      refine pm_aload_n hC 5 (by decide) dX4_compareProducts_55 rfl ?_
      refine pm_iload hC 0 dX4_compareProducts_56 rfl ?_
      refine pm_callS (as := [(3, 84), (3, 84), (0, y19)]) (st := []) hC (c_X4_roughQuotient_84_84 y19 ⟨by omega, by omega⟩) lm_X4_35 ls_X4_roughQuotient (by decide) (by decide) rfl rfl (Nat.le_of_ble_eq_true rfl) ⟨Nat.le_refl _, Or.inl rfl⟩ dX4_compareProducts_58 ⟨rfl, hV0⟩ (fun r21 V22 hp23 => ?_)
      obtain ⟨y24, rfl, b25, rfl⟩ := hp23
      change pm_J X 61 [(5, (0, y19)), (4, (0, y9)), (3, (0, y4)), (0, (3, 78)), (1, (3, 84)), (2, (3, 84))] [(2, y24)] 118 V0
      refine pm_dstore (lv' := [(6, (2, y24)), (5, (0, y19)), (4, (0, y9)), (3, (0, y4)), (0, (3, 78)), (1, (3, 84)), (2, (3, 84))]) hC dX4_compareProducts_61 (by decide) rfl ?_
      refine pm_dload hC 0 dX4_compareProducts_63 rfl ?_
      refine pm_ldc2d (v := 4607182418804521008) hC 4171 dX4_compareProducts_65 (by decide +kernel) (fun r26 => ?_)
      refine pm_dcmp hC dX4_compareProducts_68 (fun y27 b28 => ?_)
      have b28 := And.intro b28.1 b28.2
      refine pm_if_le (tgt := 74) hC ⟨by omega, by omega⟩ dX4_compareProducts_69 (by decide) (fun c29 => ?_) (fun c29 => ?_)
      · skip
        refine pm_dload hC 0 dX4_compareProducts_74 rfl ?_
        refine pm_ldc2d (v := 4607182418791010209) hC 4172 dX4_compareProducts_76 (by decide +kernel) (fun r30 => ?_)
        refine pm_dcmp hC dX4_compareProducts_79 (fun y31 b32 => ?_)
        have b32 := And.intro b32.1 b32.2
        refine pm_if_ge (tgt := 85) hC ⟨by omega, by omega⟩ dX4_compareProducts_80 (by decide) (fun c33 => ?_) (fun c33 => ?_)
        · skip
          refine pm_aload_n hC 4 (by decide) dX4_compareProducts_85 rfl ?_
          refine pm_aload_n hC 5 (by decide) dX4_compareProducts_86 rfl ?_
          refine pm_aload_n hC 6 (by decide) dX4_compareProducts_87 rfl ?_
          refine pm_iload hC 1 dX4_compareProducts_88 rfl ?_
          refine pm_callV (ci := 4) (as := [(3, 84), (3, 84), (0, y19)]) (st := []) hC 78 (c_X4_compareExactly_78_84_84 y19 ⟨by omega, by omega⟩) lm_X4_43 li_X4_compareExactly (by decide) (by decide) rfl rfl rfl (by decide) rfl rfl (Nat.le_of_ble_eq_true rfl) ⟨Nat.le_refl _, Or.inl rfl⟩ dX4_compareProducts_90 ⟨rfl, hV0⟩ (fun r34 V35 hp36 => ?_)
          obtain ⟨y37, rfl, b38, hV39, hF40⟩ := hp36
          change pm_J X 93 [(6, (2, y24)), (5, (0, y19)), (4, (0, y9)), (3, (0, y4)), (0, (3, 78)), (1, (3, 84)), (2, (3, 84))] [(0, y37)] 118 V35
          have hF41 := pm_fr.tr (pm_fr.rf (ws := [79, 80, 81, 82]) (V := V0)) hF40 (by decide)
          have e42 : V35 84 0 = y16 := by rw [hF40 84 (by decide)]; exact e17
          exact pm_iret hC hR pm_nar0 ⟨y37, rfl, ⟨by omega, by omega⟩, hV39, hF41⟩ dX4_compareProducts_93
        · skip
          refine pm_iconst (v := (-1)) hC dX4_compareProducts_83 ?_
          exact pm_iret hC hR pm_nar0 ⟨(-1), rfl, ⟨by omega, by omega⟩, hV0, (pm_fr.rf (ws := [79, 80, 81, 82]) (V := V0))⟩ dX4_compareProducts_84
      · skip
        refine pm_iconst (v := 1) hC dX4_compareProducts_72 ?_
        exact pm_iret hC hR pm_nar0 ⟨1, rfl, ⟨by omega, by omega⟩, hV0, (pm_fr.rf (ws := [79, 80, 81, 82]) (V := V0))⟩ dX4_compareProducts_73
    · skip
      refine pm_iload hC 0 dX4_compareProducts_20 rfl ?_
      refine pm_if_eq (tgt := 29) hC ⟨by omega, by omega⟩ dX4_compareProducts_22 (by decide) (fun c43 => ?_) (fun c43 => ?_)
      · skip
        exfalso; omega
      · skip
        refine pm_iconst (v := 1) hC dX4_compareProducts_25 ?_
        refine pm_goto (tgt := 30) hC dX4_compareProducts_26 (by decide) ?_
        refine pm_iload_n hC 1 dX4_compareProducts_30 rfl ?_
        refine pm_if_eq (tgt := 38) hC ⟨by omega, by omega⟩ dX4_compareProducts_31 (by decide) (fun c44 => ?_) (fun c44 => ?_)
        · skip
          refine pm_iconst (v := 0) hC dX4_compareProducts_38 ?_
          refine pm_isub hC dX4_compareProducts_39 ?_
          change pm_J X 40 [(4, (0, y9)), (3, (0, y4)), (0, (3, 78)), (1, (3, 84)), (2, (3, 84))] [(0, 1)] 118 V0
          exact pm_iret hC hR pm_nar0 ⟨1, rfl, ⟨by omega, by omega⟩, hV0, (pm_fr.rf (ws := [79, 80, 81, 82]) (V := V0))⟩ dX4_compareProducts_40
        · skip
          exfalso; omega
set_option maxHeartbeats 4000000 in
set_option maxRecDepth 100000 in
theorem c_X0_add_87 (a1 a2 : Int) (h0 : (-9223372036854775808) ≤ a1 ∧ a1 ≤ 9223372036854775807) (h1 : (-9223372036854775808) ≤ a2 ∧ a2 ≤ 9223372036854775807) : pm_K 1 yX0_add cX0_add 5 none (fun av V => av = [(3, 87), (1, a1), (1, a2)] ∧ pm_ok 0 90 V) (fun _ V r V' => r = none ∧ pm_ok 0 90 V' ∧ pm_fr [87, 88, 89] V V') := by
  refine pm_MT.of (by decide) ⟨Nat.le_refl _, by decide⟩ (fun av V h => by rw [h.1]; exact (by decide : pm_words [(3, 0), (1, 0), (1, 0)] ≤ 5)) ?_
  rintro X av V0 hC - hR ⟨rfl, hV0⟩
  change pm_J X 0 [(0, (3, 87)), (1, (1, a1)), (3, (1, a2))] [] 118 V0
  refine pm_aload_n hC 0 (by decide) dX0_add_0 rfl ?_
  obtain ⟨y1, e2⟩ : ∃ y, V0 87 0 = y := ⟨_, rfl⟩
  have b3 := hV0.get 87 0 (lo := 0) (hi := 60) (by decide) (by decide) rfl
  rw [e2] at b3
  refine pm_getf (v := y1) hC 87 fl_X0_9 rfl rfl (by decide) rfl e2 dX0_add_1 ?_
  refine pm_bipush (v := 60) hC dX0_add_4 (by decide) ?_
  refine pm_icmp_ge (tgt := 39) hC ⟨by omega, by omega⟩ ⟨by decide, by decide⟩ dX0_add_6 (by decide) (fun c4 => ?_) (fun c4 => ?_)
  · skip
    exact pm_vret hC hR ⟨rfl, hV0, (pm_fr.rf (ws := [87, 88, 89]) (V := V0))⟩ dX0_add_39
  · skip
    refine pm_aload_n hC 0 (by decide) dX0_add_9 rfl ?_
    have e5 : V0 87 1 = 88 := hV0.one 87 1 (by decide) (by decide) rfl
    refine pm_getf (v := 88) hC 87 fl_X0_15 rfl rfl (by decide) rfl e5 dX0_add_10 ?_
    refine pm_aload_n hC 0 (by decide) dX0_add_13 rfl ?_
    refine pm_getf (v := y1) hC 87 fl_X0_9 rfl rfl (by decide) rfl e2 dX0_add_14 ?_
    refine pm_lload_n hC 1 dX0_add_17 rfl ?_
    refine pm_lastore (len := 60) hC 88 rfl rfl (by decide) ⟨by omega, by omega⟩ (by decide) dX0_add_18 ?_
    refine pm_aload_n hC 0 (by decide) dX0_add_19 rfl ?_
    have e6 : V0 87 2 = 89 := hV0.one 87 2 (by decide) (by decide) rfl
    refine pm_getf (v := 89) hC 87 fl_X0_19 rfl rfl (by decide) rfl e6 dX0_add_20 ?_
    refine pm_aload_n hC 0 (by decide) dX0_add_23 rfl ?_
    refine pm_getf (v := y1) hC 87 fl_X0_9 rfl rfl (by decide) rfl e2 dX0_add_24 ?_
    refine pm_lload_n hC 2 dX0_add_27 rfl ?_
    refine pm_lastore (len := 60) hC 89 rfl rfl (by decide) ⟨by omega, by omega⟩ (by decide) dX0_add_28 ?_
    refine pm_aload_n hC 0 (by decide) dX0_add_29 rfl ?_
    refine pm_dup hC rfl dX0_add_30 ?_
    refine pm_getf (v := y1) hC 87 fl_X0_9 rfl rfl (by decide) rfl e2 dX0_add_31 ?_
    refine pm_iconst (v := 1) hC dX0_add_34 ?_
    refine pm_iadd hC dX0_add_35 ?_
    refine pm_putf hC 87 fl_X0_9 rfl rfl rfl (by decide) rfl trivial dX0_add_36 ?_
    exact pm_vret hC hR ⟨rfl, (((hV0.put 88 (y1 : Int).toNat (x := a1) (lo := (-9223372036854775808)) (hi := 9223372036854775807) rfl ⟨by omega, by omega⟩).put 89 (y1 : Int).toNat (x := a2) (lo := (-9223372036854775808)) (hi := 9223372036854775807) rfl ⟨by omega, by omega⟩).put 87 0 (x := (y1 + 1)) (lo := 0) (hi := 60) rfl ⟨by omega, by omega⟩), ((((pm_fr.rf (ws := [87, 88, 89]) (V := V0)).up 88 (y1 : Int).toNat a1 rfl).up 89 (y1 : Int).toNat a2 rfl).up 87 0 (y1 + 1) rfl)⟩ dX0_add_39
set_option maxHeartbeats 4000000 in
set_option maxRecDepth 100000 in
theorem c_X11_gather_0_87 (a1 a2 : Int) (h0 : (-2147483648) ≤ a1 ∧ a1 ≤ 2147483647) (h1 : (-2147483648) ≤ a2 ∧ a2 ≤ 2147483647) : pm_K 5 yX11_gather cX11_gather 5 none (fun av V => av = [(3, 0), (3, 87), (0, a1), (0, a2)] ∧ pm_ok 0 90 V) (fun _ V r V' => r = none ∧ pm_ok 0 90 V' ∧ pm_fr [73, 74, 75, 76, 77, 87, 88, 89] V V') := by
  refine pm_MT.of (by decide) ⟨Nat.le_refl _, by decide⟩ (fun av V h => by rw [h.1]; exact (by decide : pm_words [(3, 0), (3, 0), (0, 0), (0, 0)] ≤ 5)) ?_
  rintro X av V0 hC - hR ⟨rfl, hV0⟩
  change pm_J X 0 [(0, (3, 0)), (1, (3, 87)), (2, (0, a1)), (3, (0, a2))] [] 118 V0
  refine pm_aload_n hC 1 (by decide) dX11_gather_0 rfl ?_
  refine pm_iconst (v := 0) hC dX11_gather_1 ?_
  refine pm_putf hC 87 fl_X11_371 rfl rfl rfl (by decide) rfl trivial dX11_gather_2 ?_
  refine pm_iconst (v := 0) hC dX11_gather_5 ?_
  refine pm_istore (lv' := [(4, (0, 0)), (0, (3, 0)), (1, (3, 87)), (2, (0, a1)), (3, (0, a2))]) hC dX11_gather_6 (by decide) rfl ?_
  have hV3 := (hV0.put 87 0 (x := 0) (lo := 0) (hi := 60) rfl ⟨by decide, by decide⟩)
  have hF4 := ((pm_fr.rf (ws := [73, 74, 75, 76, 77, 87, 88, 89]) (V := V0)).up 87 0 0 rfl)
  obtain ⟨V1, hv2⟩ : ∃ V, V = (pm_up V0 87 0 0) := ⟨_, rfl⟩
  rw [← hv2] at hV3 hF4
  rw [← hv2]
  have e5 : V1 87 0 = 0 := by rw [hv2]; rfl
  have L11 : ∀ (N13 : Nat) (x6 : Int) (V8 : pm_M), (0 ≤ x6 ∧ x6 ≤ 60) → pm_ok 0 90 V8 → pm_fr [73, 74, 75, 76, 77, 87, 88, 89] V0 V8 → (Int.toNat (60 - x6)) = N13 → pm_J X 8 [(0, (3, 0)), (1, (3, 87)), (2, (0, a1)), (3, (0, a2)), (4, (0, x6))] [] 118 V8 := by
    intro N13
    induction N13 using Nat.strongRecOn with
    | _ N13 ih14 =>
    intro x6 V8 b7 hV9 hF10 hm12
    refine pm_iload hC 4 dX11_gather_8 rfl ?_
    refine pm_aload_n hC 0 (by decide) dX11_gather_10 rfl ?_
    have e15 : V8 0 3 = 4 := hV9.one 0 3 (by decide) (by decide) rfl
    refine pm_getf (v := 4) hC 0 fl_X11_24 rfl rfl (by decide) rfl e15 dX11_gather_11 ?_
    obtain ⟨y16, e17⟩ : ∃ y, V8 4 6 = y := ⟨_, rfl⟩
    have b18 := hV9.get 4 6 (lo := 0) (hi := 60) (by decide) (by decide) rfl
    rw [e17] at b18
    refine pm_getf (v := y16) hC 4 fl_X11_162 rfl rfl (by decide) rfl e17 dX11_gather_14 ?_
    refine pm_icmp_ge (tgt := 119) hC ⟨by omega, by omega⟩ ⟨by omega, by omega⟩ dX11_gather_17 (by decide) (fun c19 => ?_) (fun c19 => ?_)
    · skip
      exact pm_vret hC hR ⟨rfl, hV9, hF10⟩ dX11_gather_119
    · skip
      refine pm_iload_n hC 3 dX11_gather_20 rfl ?_
      refine pm_iconst (v := (-1)) hC dX11_gather_21 ?_
      refine pm_icmp_eq (tgt := 42) hC ⟨by omega, by omega⟩ ⟨by decide, by decide⟩ dX11_gather_22 (by decide) (fun c20 => ?_) (fun c20 => ?_)
      · skip
        refine pm_aload_n hC 0 (by decide) dX11_gather_42 rfl ?_
        refine pm_aload_n hC 0 (by decide) dX11_gather_43 rfl ?_
        refine pm_getf (v := 4) hC 0 fl_X11_24 rfl rfl (by decide) rfl e15 dX11_gather_44 ?_
        have e21 : V8 4 7 = 9 := hV9.one 4 7 (by decide) (by decide) rfl
        refine pm_getf (v := 9) hC 4 fl_X11_243 rfl rfl (by decide) rfl e21 dX11_gather_47 ?_
        refine pm_iload hC 4 dX11_gather_50 rfl ?_
        obtain ⟨y22, e23⟩ : ∃ y, V8 9 (x6 : Int).toNat = y := ⟨_, rfl⟩
        have b24 := hV9.get1 9 (x6 : Int).toNat (lo := 0) (hi := 999) (by decide) (show _ < 60 by omega) rfl
        rw [e23] at b24
        refine pm_iaload (len := 60) (v := y22) hC 9 rfl rfl (by decide) ⟨by omega, by omega⟩ (by decide) e23 dX11_gather_52 ?_
        refine pm_aload_n hC 0 (by decide) dX11_gather_53 rfl ?_
        refine pm_getf (v := 4) hC 0 fl_X11_24 rfl rfl (by decide) rfl e15 dX11_gather_54 ?_
        have e25 : V8 4 8 = 10 := hV9.one 4 8 (by decide) (by decide) rfl
        refine pm_getf (v := 10) hC 4 fl_X11_246 rfl rfl (by decide) rfl e25 dX11_gather_57 ?_
        refine pm_iload hC 4 dX11_gather_60 rfl ?_
        obtain ⟨y26, e27⟩ : ∃ y, V8 10 (x6 : Int).toNat = y := ⟨_, rfl⟩
        have b28 := hV9.get 10 (x6 : Int).toNat (lo := 0) (hi := 99) (by decide) (show _ < 60 by omega) rfl
        rw [e27] at b28
        refine pm_iaload (len := 60) (v := y26) hC 10 rfl rfl (by decide) ⟨by omega, by omega⟩ (by decide) e27 dX11_gather_62 ?_
        refine pm_aload_n hC 0 (by decide) dX11_gather_63 rfl ?_
        refine pm_getf (v := 4) hC 0 fl_X11_24 rfl rfl (by decide) rfl e15 dX11_gather_64 ?_
        have e29 : V8 4 9 = 11 := hV9.one 4 9 (by decide) (by decide) rfl
        refine pm_getf (v := 11) hC 4 fl_X11_249 rfl rfl (by decide) rfl e29 dX11_gather_67 ?_
        refine pm_iload hC 4 dX11_gather_70 rfl ?_
        obtain ⟨y30, e31⟩ : ∃ y, V8 11 (x6 : Int).toNat = y := ⟨_, rfl⟩
        have b32 := hV9.get 11 (x6 : Int).toNat (lo := (-99)) (hi := 99) (by decide) (show _ < 60 by omega) rfl
        rw [e31] at b32
        refine pm_iaload (len := 60) (v := y30) hC 11 rfl rfl (by decide) ⟨by omega, by omega⟩ (by decide) e31 dX11_gather_72 ?_
        refine pm_callV (ci := 11) (as := [(0, y22), (0, y26), (0, y30)]) (st := []) hC 0 (c_X11_pose_0 y22 y26 y30 ⟨by omega, by omega⟩ ⟨by omega, by omega⟩ ⟨by omega, by omega⟩ (by omega)) lm_X11_229 li_X11_pose (by decide) (by decide) rfl rfl rfl (by decide) rfl rfl (Nat.le_of_ble_eq_true rfl) ⟨Nat.le_refl _, Or.inl rfl⟩ dX11_gather_73 ⟨rfl, hV9⟩ (fun r33 V34 hp35 => ?_)
        obtain ⟨rfl, hV36, hF37⟩ := hp35
        change pm_J X 76 [(0, (3, 0)), (1, (3, 87)), (2, (0, a1)), (3, (0, a2)), (4, (0, x6))] [] 118 V34
        have hF38 := pm_fr.tr hF10 hF37 (by decide)
        have e39 : V34 0 3 = 4 := by rw [hF37 0 (by decide)]; exact e15
        have e40 : V34 4 6 = y16 := by rw [hF37 4 (by decide)]; exact e17
        have e41 : V34 4 7 = 9 := by rw [hF37 4 (by decide)]; exact e21
        have e42 : V34 4 8 = 10 := by rw [hF37 4 (by decide)]; exact e25
        have e43 : V34 4 9 = 11 := by rw [hF37 4 (by decide)]; exact e29
        refine pm_aload_n hC 0 (by decide) dX11_gather_76 rfl ?_
        have e44 : V34 0 5 = 73 := hV36.one 0 5 (by decide) (by decide) rfl
        refine pm_getf (v := 73) hC 0 fl_X11_75 rfl rfl (by decide) rfl e44 dX11_gather_77 ?_
        refine pm_iload_n hC 2 dX11_gather_80 rfl ?_
        refine pm_callV (ci := 10) (as := [(0, a1)]) (st := []) hC 73 (c_X10_weigh_73 a1 ⟨by omega, by omega⟩) lm_X11_294 li_X10_weigh (by decide) (by decide) rfl rfl rfl (by decide) rfl rfl (Nat.le_of_ble_eq_true rfl) ⟨Nat.le_refl _, Or.inl rfl⟩ dX11_gather_81 ⟨rfl, hV36⟩ (fun r45 V46 hp47 => ?_)
        obtain ⟨rfl, hV48, hF49⟩ := hp47
        change pm_J X 84 [(0, (3, 0)), (1, (3, 87)), (2, (0, a1)), (3, (0, a2)), (4, (0, x6))] [] 118 V46
        have hF50 := pm_fr.tr hF38 hF49 (by decide)
        have e51 : V46 0 3 = 4 := by rw [hF49 0 (by decide)]; exact e39
        have e52 : V46 4 6 = y16 := by rw [hF49 4 (by decide)]; exact e40
        have e53 : V46 4 7 = 9 := by rw [hF49 4 (by decide)]; exact e41
        have e54 : V46 4 8 = 10 := by rw [hF49 4 (by decide)]; exact e42
        have e55 : V46 4 9 = 11 := by rw [hF49 4 (by decide)]; exact e43
        have e56 : V46 0 5 = 73 := by rw [hF49 0 (by decide)]; exact e44
        refine pm_aload_n hC 1 (by decide) dX11_gather_84 rfl ?_
        refine pm_aload_n hC 0 (by decide) dX11_gather_85 rfl ?_
        refine pm_getf (v := 73) hC 0 fl_X11_75 rfl rfl (by decide) rfl e56 dX11_gather_86 ?_
        rcases hV48.get2 73 13 (lo := 76) (hi := 77) (by decide) (by decide) rfl with e57 | e57
        · skip
          refine pm_getf (v := 76) hC 73 fl_X11_208 rfl rfl (by decide) rfl e57 dX11_gather_89 ?_
          refine pm_aload_n hC 0 (by decide) dX11_gather_92 rfl ?_
          refine pm_getf (v := 4) hC 0 fl_X11_24 rfl rfl (by decide) rfl e51 dX11_gather_93 ?_
          have e58 : V46 4 10 = 12 := hV48.one 4 10 (by decide) (by decide) rfl
          refine pm_getf (v := 12) hC 4 fl_X11_252 rfl rfl (by decide) rfl e58 dX11_gather_96 ?_
          refine pm_iload hC 4 dX11_gather_99 rfl ?_
          obtain ⟨y59, e60⟩ : ∃ y, V46 12 (x6 : Int).toNat = y := ⟨_, rfl⟩
          have b61 := hV48.get 12 (x6 : Int).toNat (lo := 0) (hi := 8) (by decide) (show _ < 60 by omega) rfl
          rw [e60] at b61
          refine pm_iaload (len := 60) (v := y59) hC 12 rfl rfl (by decide) ⟨by omega, by omega⟩ (by decide) e60 dX11_gather_101 ?_
          obtain ⟨y62, e63⟩ : ∃ y, V46 76 (y59 : Int).toNat = y := ⟨_, rfl⟩
          have b64 := hV48.get 76 (y59 : Int).toNat (lo := (-9223372036854775808)) (hi := 9223372036854775807) (by decide) (show _ < 9 by omega) rfl
          rw [e63] at b64
          refine pm_laload (len := 9) (v := y62) hC 76 rfl rfl (by decide) ⟨by omega, by omega⟩ (by decide) e63 dX11_gather_102 ?_
          refine pm_aload_n hC 0 (by decide) dX11_gather_103 rfl ?_
          refine pm_getf (v := 73) hC 0 fl_X11_75 rfl rfl (by decide) rfl e56 dX11_gather_104 ?_
          obtain ⟨y65, e66⟩ : ∃ y, V46 73 14 = y := ⟨_, rfl⟩
          have b67 := hV48.get 73 14 (lo := (-9223372036854775808)) (hi := 9223372036854775807) (by decide) (by decide) rfl
          rw [e66] at b67
          refine pm_getf (v := y65) hC 73 fl_X11_205 rfl rfl (by decide) rfl e66 dX11_gather_107 ?_
          refine pm_callV (ci := 0) (as := [(1, y62), (1, y65)]) (st := []) hC 87 (c_X0_add_87 y62 y65 ⟨by omega, by omega⟩ ⟨by omega, by omega⟩) lm_X11_374 li_X0_add (by decide) (by decide) rfl rfl rfl (by decide) rfl rfl (Nat.le_of_ble_eq_true rfl) ⟨Nat.le_refl _, Or.inl rfl⟩ dX11_gather_110 ⟨rfl, hV48⟩ (fun r68 V69 hp70 => ?_)
          obtain ⟨rfl, hV71, hF72⟩ := hp70
          change pm_J X 113 [(0, (3, 0)), (1, (3, 87)), (2, (0, a1)), (3, (0, a2)), (4, (0, x6))] [] 118 V69
          have hF73 := pm_fr.tr hF50 hF72 (by decide)
          have e74 : V69 0 3 = 4 := by rw [hF72 0 (by decide)]; exact e51
          have e75 : V69 4 6 = y16 := by rw [hF72 4 (by decide)]; exact e52
          have e76 : V69 4 7 = 9 := by rw [hF72 4 (by decide)]; exact e53
          have e77 : V69 4 8 = 10 := by rw [hF72 4 (by decide)]; exact e54
          have e78 : V69 4 9 = 11 := by rw [hF72 4 (by decide)]; exact e55
          have e79 : V69 0 5 = 73 := by rw [hF72 0 (by decide)]; exact e56
          have e80 : V69 73 13 = 76 := by rw [hF72 73 (by decide)]; exact e57
          have e81 : V69 4 10 = 12 := by rw [hF72 4 (by decide)]; exact e58
          have e82 : V69 73 14 = y65 := by rw [hF72 73 (by decide)]; exact e66
          obtain ⟨x83, ei84⟩ : ∃ y : Int, x6 + 1 = y := ⟨_, rfl⟩
          refine pm_iinc (y := x83) (lv' := [(4, (0, x83)), (0, (3, 0)), (1, (3, 87)), (2, (0, a1)), (3, (0, a2))]) hC 4 dX11_gather_113 (by decide) rfl ei84 rfl ?_
          refine pm_goto (tgt := 8) hC dX11_gather_116 (by decide) ?_
          refine pm_lvsub [1, 2, 3, 4, 0] (lv' := [(0, (3, 0)), (1, (3, 87)), (2, (0, a1)), (3, (0, a2)), (4, (0, x83))]) rfl ?_
          exact ih14 _ (by omega) x83 V69 ⟨by omega, by omega⟩ hV71 hF73 rfl
        · skip
          refine pm_getf (v := 77) hC 73 fl_X11_208 rfl rfl (by decide) rfl e57 dX11_gather_89 ?_
          refine pm_aload_n hC 0 (by decide) dX11_gather_92 rfl ?_
          refine pm_getf (v := 4) hC 0 fl_X11_24 rfl rfl (by decide) rfl e51 dX11_gather_93 ?_
          have e85 : V46 4 10 = 12 := hV48.one 4 10 (by decide) (by decide) rfl
          refine pm_getf (v := 12) hC 4 fl_X11_252 rfl rfl (by decide) rfl e85 dX11_gather_96 ?_
          refine pm_iload hC 4 dX11_gather_99 rfl ?_
          obtain ⟨y86, e87⟩ : ∃ y, V46 12 (x6 : Int).toNat = y := ⟨_, rfl⟩
          have b88 := hV48.get 12 (x6 : Int).toNat (lo := 0) (hi := 8) (by decide) (show _ < 60 by omega) rfl
          rw [e87] at b88
          refine pm_iaload (len := 60) (v := y86) hC 12 rfl rfl (by decide) ⟨by omega, by omega⟩ (by decide) e87 dX11_gather_101 ?_
          obtain ⟨y89, e90⟩ : ∃ y, V46 77 (y86 : Int).toNat = y := ⟨_, rfl⟩
          have b91 := hV48.get 77 (y86 : Int).toNat (lo := (-9223372036854775808)) (hi := 9223372036854775807) (by decide) (show _ < 9 by omega) rfl
          rw [e90] at b91
          refine pm_laload (len := 9) (v := y89) hC 77 rfl rfl (by decide) ⟨by omega, by omega⟩ (by decide) e90 dX11_gather_102 ?_
          refine pm_aload_n hC 0 (by decide) dX11_gather_103 rfl ?_
          refine pm_getf (v := 73) hC 0 fl_X11_75 rfl rfl (by decide) rfl e56 dX11_gather_104 ?_
          obtain ⟨y92, e93⟩ : ∃ y, V46 73 14 = y := ⟨_, rfl⟩
          have b94 := hV48.get 73 14 (lo := (-9223372036854775808)) (hi := 9223372036854775807) (by decide) (by decide) rfl
          rw [e93] at b94
          refine pm_getf (v := y92) hC 73 fl_X11_205 rfl rfl (by decide) rfl e93 dX11_gather_107 ?_
          refine pm_callV (ci := 0) (as := [(1, y89), (1, y92)]) (st := []) hC 87 (c_X0_add_87 y89 y92 ⟨by omega, by omega⟩ ⟨by omega, by omega⟩) lm_X11_374 li_X0_add (by decide) (by decide) rfl rfl rfl (by decide) rfl rfl (Nat.le_of_ble_eq_true rfl) ⟨Nat.le_refl _, Or.inl rfl⟩ dX11_gather_110 ⟨rfl, hV48⟩ (fun r95 V96 hp97 => ?_)
          obtain ⟨rfl, hV98, hF99⟩ := hp97
          change pm_J X 113 [(0, (3, 0)), (1, (3, 87)), (2, (0, a1)), (3, (0, a2)), (4, (0, x6))] [] 118 V96
          have hF100 := pm_fr.tr hF50 hF99 (by decide)
          have e101 : V96 0 3 = 4 := by rw [hF99 0 (by decide)]; exact e51
          have e102 : V96 4 6 = y16 := by rw [hF99 4 (by decide)]; exact e52
          have e103 : V96 4 7 = 9 := by rw [hF99 4 (by decide)]; exact e53
          have e104 : V96 4 8 = 10 := by rw [hF99 4 (by decide)]; exact e54
          have e105 : V96 4 9 = 11 := by rw [hF99 4 (by decide)]; exact e55
          have e106 : V96 0 5 = 73 := by rw [hF99 0 (by decide)]; exact e56
          have e107 : V96 73 13 = 77 := by rw [hF99 73 (by decide)]; exact e57
          have e108 : V96 4 10 = 12 := by rw [hF99 4 (by decide)]; exact e85
          have e109 : V96 73 14 = y92 := by rw [hF99 73 (by decide)]; exact e93
          obtain ⟨x110, ei111⟩ : ∃ y : Int, x6 + 1 = y := ⟨_, rfl⟩
          refine pm_iinc (y := x110) (lv' := [(4, (0, x110)), (0, (3, 0)), (1, (3, 87)), (2, (0, a1)), (3, (0, a2))]) hC 4 dX11_gather_113 (by decide) rfl ei111 rfl ?_
          refine pm_goto (tgt := 8) hC dX11_gather_116 (by decide) ?_
          refine pm_lvsub [1, 2, 3, 4, 0] (lv' := [(0, (3, 0)), (1, (3, 87)), (2, (0, a1)), (3, (0, a2)), (4, (0, x110))]) rfl ?_
          exact ih14 _ (by omega) x110 V96 ⟨by omega, by omega⟩ hV98 hF100 rfl
      · skip
        refine pm_aload_n hC 0 (by decide) dX11_gather_25 rfl ?_
        refine pm_getf (v := 4) hC 0 fl_X11_24 rfl rfl (by decide) rfl e15 dX11_gather_26 ?_
        have e112 : V8 4 7 = 9 := hV9.one 4 7 (by decide) (by decide) rfl
        refine pm_getf (v := 9) hC 4 fl_X11_243 rfl rfl (by decide) rfl e112 dX11_gather_29 ?_
        refine pm_iload hC 4 dX11_gather_32 rfl ?_
        obtain ⟨y113, e114⟩ : ∃ y, V8 9 (x6 : Int).toNat = y := ⟨_, rfl⟩
        have b115 := hV9.get1 9 (x6 : Int).toNat (lo := 0) (hi := 999) (by decide) (show _ < 60 by omega) rfl
        rw [e114] at b115
        refine pm_iaload (len := 60) (v := y113) hC 9 rfl rfl (by decide) ⟨by omega, by omega⟩ (by decide) e114 dX11_gather_34 ?_
        refine pm_bipush (v := 100) hC dX11_gather_35 (by decide) ?_
        refine pm_idiv hC ⟨by omega, by omega, by omega⟩ ⟨by decide, by decide, by decide⟩ dX11_gather_37 ?_
        refine pm_iload_n hC 3 dX11_gather_38 rfl ?_
        refine pm_icmp_ne (tgt := 113) hC ⟨by omega, by omega⟩ ⟨by omega, by omega⟩ dX11_gather_39 (by decide) (fun c116 => ?_) (fun c116 => ?_)
        · skip
          obtain ⟨x117, ei118⟩ : ∃ y : Int, x6 + 1 = y := ⟨_, rfl⟩
          refine pm_iinc (y := x117) (lv' := [(4, (0, x117)), (0, (3, 0)), (1, (3, 87)), (2, (0, a1)), (3, (0, a2))]) hC 4 dX11_gather_113 (by decide) rfl ei118 rfl ?_
          refine pm_goto (tgt := 8) hC dX11_gather_116 (by decide) ?_
          refine pm_lvsub [1, 2, 3, 4, 0] (lv' := [(0, (3, 0)), (1, (3, 87)), (2, (0, a1)), (3, (0, a2)), (4, (0, x117))]) rfl ?_
          exact ih14 _ (by omega) x117 V8 ⟨by omega, by omega⟩ hV9 hF10 rfl
        · skip
          refine pm_aload_n hC 0 (by decide) dX11_gather_42 rfl ?_
          refine pm_aload_n hC 0 (by decide) dX11_gather_43 rfl ?_
          refine pm_getf (v := 4) hC 0 fl_X11_24 rfl rfl (by decide) rfl e15 dX11_gather_44 ?_
          refine pm_getf (v := 9) hC 4 fl_X11_243 rfl rfl (by decide) rfl e112 dX11_gather_47 ?_
          refine pm_iload hC 4 dX11_gather_50 rfl ?_
          refine pm_iaload (len := 60) (v := y113) hC 9 rfl rfl (by decide) ⟨by omega, by omega⟩ (by decide) e114 dX11_gather_52 ?_
          refine pm_aload_n hC 0 (by decide) dX11_gather_53 rfl ?_
          refine pm_getf (v := 4) hC 0 fl_X11_24 rfl rfl (by decide) rfl e15 dX11_gather_54 ?_
          have e119 : V8 4 8 = 10 := hV9.one 4 8 (by decide) (by decide) rfl
          refine pm_getf (v := 10) hC 4 fl_X11_246 rfl rfl (by decide) rfl e119 dX11_gather_57 ?_
          refine pm_iload hC 4 dX11_gather_60 rfl ?_
          obtain ⟨y120, e121⟩ : ∃ y, V8 10 (x6 : Int).toNat = y := ⟨_, rfl⟩
          have b122 := hV9.get 10 (x6 : Int).toNat (lo := 0) (hi := 99) (by decide) (show _ < 60 by omega) rfl
          rw [e121] at b122
          refine pm_iaload (len := 60) (v := y120) hC 10 rfl rfl (by decide) ⟨by omega, by omega⟩ (by decide) e121 dX11_gather_62 ?_
          refine pm_aload_n hC 0 (by decide) dX11_gather_63 rfl ?_
          refine pm_getf (v := 4) hC 0 fl_X11_24 rfl rfl (by decide) rfl e15 dX11_gather_64 ?_
          have e123 : V8 4 9 = 11 := hV9.one 4 9 (by decide) (by decide) rfl
          refine pm_getf (v := 11) hC 4 fl_X11_249 rfl rfl (by decide) rfl e123 dX11_gather_67 ?_
          refine pm_iload hC 4 dX11_gather_70 rfl ?_
          obtain ⟨y124, e125⟩ : ∃ y, V8 11 (x6 : Int).toNat = y := ⟨_, rfl⟩
          have b126 := hV9.get 11 (x6 : Int).toNat (lo := (-99)) (hi := 99) (by decide) (show _ < 60 by omega) rfl
          rw [e125] at b126
          refine pm_iaload (len := 60) (v := y124) hC 11 rfl rfl (by decide) ⟨by omega, by omega⟩ (by decide) e125 dX11_gather_72 ?_
          refine pm_callV (ci := 11) (as := [(0, y113), (0, y120), (0, y124)]) (st := []) hC 0 (c_X11_pose_0 y113 y120 y124 ⟨by omega, by omega⟩ ⟨by omega, by omega⟩ ⟨by omega, by omega⟩ (by omega)) lm_X11_229 li_X11_pose (by decide) (by decide) rfl rfl rfl (by decide) rfl rfl (Nat.le_of_ble_eq_true rfl) ⟨Nat.le_refl _, Or.inl rfl⟩ dX11_gather_73 ⟨rfl, hV9⟩ (fun r127 V128 hp129 => ?_)
          obtain ⟨rfl, hV130, hF131⟩ := hp129
          change pm_J X 76 [(0, (3, 0)), (1, (3, 87)), (2, (0, a1)), (3, (0, a2)), (4, (0, x6))] [] 118 V128
          have hF132 := pm_fr.tr hF10 hF131 (by decide)
          have e133 : V128 0 3 = 4 := by rw [hF131 0 (by decide)]; exact e15
          have e134 : V128 4 6 = y16 := by rw [hF131 4 (by decide)]; exact e17
          have e135 : V128 4 7 = 9 := by rw [hF131 4 (by decide)]; exact e112
          have e136 : V128 4 8 = 10 := by rw [hF131 4 (by decide)]; exact e119
          have e137 : V128 4 9 = 11 := by rw [hF131 4 (by decide)]; exact e123
          refine pm_aload_n hC 0 (by decide) dX11_gather_76 rfl ?_
          have e138 : V128 0 5 = 73 := hV130.one 0 5 (by decide) (by decide) rfl
          refine pm_getf (v := 73) hC 0 fl_X11_75 rfl rfl (by decide) rfl e138 dX11_gather_77 ?_
          refine pm_iload_n hC 2 dX11_gather_80 rfl ?_
          refine pm_callV (ci := 10) (as := [(0, a1)]) (st := []) hC 73 (c_X10_weigh_73 a1 ⟨by omega, by omega⟩) lm_X11_294 li_X10_weigh (by decide) (by decide) rfl rfl rfl (by decide) rfl rfl (Nat.le_of_ble_eq_true rfl) ⟨Nat.le_refl _, Or.inl rfl⟩ dX11_gather_81 ⟨rfl, hV130⟩ (fun r139 V140 hp141 => ?_)
          obtain ⟨rfl, hV142, hF143⟩ := hp141
          change pm_J X 84 [(0, (3, 0)), (1, (3, 87)), (2, (0, a1)), (3, (0, a2)), (4, (0, x6))] [] 118 V140
          have hF144 := pm_fr.tr hF132 hF143 (by decide)
          have e145 : V140 0 3 = 4 := by rw [hF143 0 (by decide)]; exact e133
          have e146 : V140 4 6 = y16 := by rw [hF143 4 (by decide)]; exact e134
          have e147 : V140 4 7 = 9 := by rw [hF143 4 (by decide)]; exact e135
          have e148 : V140 4 8 = 10 := by rw [hF143 4 (by decide)]; exact e136
          have e149 : V140 4 9 = 11 := by rw [hF143 4 (by decide)]; exact e137
          have e150 : V140 0 5 = 73 := by rw [hF143 0 (by decide)]; exact e138
          refine pm_aload_n hC 1 (by decide) dX11_gather_84 rfl ?_
          refine pm_aload_n hC 0 (by decide) dX11_gather_85 rfl ?_
          refine pm_getf (v := 73) hC 0 fl_X11_75 rfl rfl (by decide) rfl e150 dX11_gather_86 ?_
          rcases hV142.get2 73 13 (lo := 76) (hi := 77) (by decide) (by decide) rfl with e151 | e151
          · skip
            refine pm_getf (v := 76) hC 73 fl_X11_208 rfl rfl (by decide) rfl e151 dX11_gather_89 ?_
            refine pm_aload_n hC 0 (by decide) dX11_gather_92 rfl ?_
            refine pm_getf (v := 4) hC 0 fl_X11_24 rfl rfl (by decide) rfl e145 dX11_gather_93 ?_
            have e152 : V140 4 10 = 12 := hV142.one 4 10 (by decide) (by decide) rfl
            refine pm_getf (v := 12) hC 4 fl_X11_252 rfl rfl (by decide) rfl e152 dX11_gather_96 ?_
            refine pm_iload hC 4 dX11_gather_99 rfl ?_
            obtain ⟨y153, e154⟩ : ∃ y, V140 12 (x6 : Int).toNat = y := ⟨_, rfl⟩
            have b155 := hV142.get 12 (x6 : Int).toNat (lo := 0) (hi := 8) (by decide) (show _ < 60 by omega) rfl
            rw [e154] at b155
            refine pm_iaload (len := 60) (v := y153) hC 12 rfl rfl (by decide) ⟨by omega, by omega⟩ (by decide) e154 dX11_gather_101 ?_
            obtain ⟨y156, e157⟩ : ∃ y, V140 76 (y153 : Int).toNat = y := ⟨_, rfl⟩
            have b158 := hV142.get 76 (y153 : Int).toNat (lo := (-9223372036854775808)) (hi := 9223372036854775807) (by decide) (show _ < 9 by omega) rfl
            rw [e157] at b158
            refine pm_laload (len := 9) (v := y156) hC 76 rfl rfl (by decide) ⟨by omega, by omega⟩ (by decide) e157 dX11_gather_102 ?_
            refine pm_aload_n hC 0 (by decide) dX11_gather_103 rfl ?_
            refine pm_getf (v := 73) hC 0 fl_X11_75 rfl rfl (by decide) rfl e150 dX11_gather_104 ?_
            obtain ⟨y159, e160⟩ : ∃ y, V140 73 14 = y := ⟨_, rfl⟩
            have b161 := hV142.get 73 14 (lo := (-9223372036854775808)) (hi := 9223372036854775807) (by decide) (by decide) rfl
            rw [e160] at b161
            refine pm_getf (v := y159) hC 73 fl_X11_205 rfl rfl (by decide) rfl e160 dX11_gather_107 ?_
            refine pm_callV (ci := 0) (as := [(1, y156), (1, y159)]) (st := []) hC 87 (c_X0_add_87 y156 y159 ⟨by omega, by omega⟩ ⟨by omega, by omega⟩) lm_X11_374 li_X0_add (by decide) (by decide) rfl rfl rfl (by decide) rfl rfl (Nat.le_of_ble_eq_true rfl) ⟨Nat.le_refl _, Or.inl rfl⟩ dX11_gather_110 ⟨rfl, hV142⟩ (fun r162 V163 hp164 => ?_)
            obtain ⟨rfl, hV165, hF166⟩ := hp164
            change pm_J X 113 [(0, (3, 0)), (1, (3, 87)), (2, (0, a1)), (3, (0, a2)), (4, (0, x6))] [] 118 V163
            have hF167 := pm_fr.tr hF144 hF166 (by decide)
            have e168 : V163 0 3 = 4 := by rw [hF166 0 (by decide)]; exact e145
            have e169 : V163 4 6 = y16 := by rw [hF166 4 (by decide)]; exact e146
            have e170 : V163 4 7 = 9 := by rw [hF166 4 (by decide)]; exact e147
            have e171 : V163 4 8 = 10 := by rw [hF166 4 (by decide)]; exact e148
            have e172 : V163 4 9 = 11 := by rw [hF166 4 (by decide)]; exact e149
            have e173 : V163 0 5 = 73 := by rw [hF166 0 (by decide)]; exact e150
            have e174 : V163 73 13 = 76 := by rw [hF166 73 (by decide)]; exact e151
            have e175 : V163 4 10 = 12 := by rw [hF166 4 (by decide)]; exact e152
            have e176 : V163 73 14 = y159 := by rw [hF166 73 (by decide)]; exact e160
            obtain ⟨x177, ei178⟩ : ∃ y : Int, x6 + 1 = y := ⟨_, rfl⟩
            refine pm_iinc (y := x177) (lv' := [(4, (0, x177)), (0, (3, 0)), (1, (3, 87)), (2, (0, a1)), (3, (0, a2))]) hC 4 dX11_gather_113 (by decide) rfl ei178 rfl ?_
            refine pm_goto (tgt := 8) hC dX11_gather_116 (by decide) ?_
            refine pm_lvsub [1, 2, 3, 4, 0] (lv' := [(0, (3, 0)), (1, (3, 87)), (2, (0, a1)), (3, (0, a2)), (4, (0, x177))]) rfl ?_
            exact ih14 _ (by omega) x177 V163 ⟨by omega, by omega⟩ hV165 hF167 rfl
          · skip
            refine pm_getf (v := 77) hC 73 fl_X11_208 rfl rfl (by decide) rfl e151 dX11_gather_89 ?_
            refine pm_aload_n hC 0 (by decide) dX11_gather_92 rfl ?_
            refine pm_getf (v := 4) hC 0 fl_X11_24 rfl rfl (by decide) rfl e145 dX11_gather_93 ?_
            have e179 : V140 4 10 = 12 := hV142.one 4 10 (by decide) (by decide) rfl
            refine pm_getf (v := 12) hC 4 fl_X11_252 rfl rfl (by decide) rfl e179 dX11_gather_96 ?_
            refine pm_iload hC 4 dX11_gather_99 rfl ?_
            obtain ⟨y180, e181⟩ : ∃ y, V140 12 (x6 : Int).toNat = y := ⟨_, rfl⟩
            have b182 := hV142.get 12 (x6 : Int).toNat (lo := 0) (hi := 8) (by decide) (show _ < 60 by omega) rfl
            rw [e181] at b182
            refine pm_iaload (len := 60) (v := y180) hC 12 rfl rfl (by decide) ⟨by omega, by omega⟩ (by decide) e181 dX11_gather_101 ?_
            obtain ⟨y183, e184⟩ : ∃ y, V140 77 (y180 : Int).toNat = y := ⟨_, rfl⟩
            have b185 := hV142.get 77 (y180 : Int).toNat (lo := (-9223372036854775808)) (hi := 9223372036854775807) (by decide) (show _ < 9 by omega) rfl
            rw [e184] at b185
            refine pm_laload (len := 9) (v := y183) hC 77 rfl rfl (by decide) ⟨by omega, by omega⟩ (by decide) e184 dX11_gather_102 ?_
            refine pm_aload_n hC 0 (by decide) dX11_gather_103 rfl ?_
            refine pm_getf (v := 73) hC 0 fl_X11_75 rfl rfl (by decide) rfl e150 dX11_gather_104 ?_
            obtain ⟨y186, e187⟩ : ∃ y, V140 73 14 = y := ⟨_, rfl⟩
            have b188 := hV142.get 73 14 (lo := (-9223372036854775808)) (hi := 9223372036854775807) (by decide) (by decide) rfl
            rw [e187] at b188
            refine pm_getf (v := y186) hC 73 fl_X11_205 rfl rfl (by decide) rfl e187 dX11_gather_107 ?_
            refine pm_callV (ci := 0) (as := [(1, y183), (1, y186)]) (st := []) hC 87 (c_X0_add_87 y183 y186 ⟨by omega, by omega⟩ ⟨by omega, by omega⟩) lm_X11_374 li_X0_add (by decide) (by decide) rfl rfl rfl (by decide) rfl rfl (Nat.le_of_ble_eq_true rfl) ⟨Nat.le_refl _, Or.inl rfl⟩ dX11_gather_110 ⟨rfl, hV142⟩ (fun r189 V190 hp191 => ?_)
            obtain ⟨rfl, hV192, hF193⟩ := hp191
            change pm_J X 113 [(0, (3, 0)), (1, (3, 87)), (2, (0, a1)), (3, (0, a2)), (4, (0, x6))] [] 118 V190
            have hF194 := pm_fr.tr hF144 hF193 (by decide)
            have e195 : V190 0 3 = 4 := by rw [hF193 0 (by decide)]; exact e145
            have e196 : V190 4 6 = y16 := by rw [hF193 4 (by decide)]; exact e146
            have e197 : V190 4 7 = 9 := by rw [hF193 4 (by decide)]; exact e147
            have e198 : V190 4 8 = 10 := by rw [hF193 4 (by decide)]; exact e148
            have e199 : V190 4 9 = 11 := by rw [hF193 4 (by decide)]; exact e149
            have e200 : V190 0 5 = 73 := by rw [hF193 0 (by decide)]; exact e150
            have e201 : V190 73 13 = 77 := by rw [hF193 73 (by decide)]; exact e151
            have e202 : V190 4 10 = 12 := by rw [hF193 4 (by decide)]; exact e179
            have e203 : V190 73 14 = y186 := by rw [hF193 73 (by decide)]; exact e187
            obtain ⟨x204, ei205⟩ : ∃ y : Int, x6 + 1 = y := ⟨_, rfl⟩
            refine pm_iinc (y := x204) (lv' := [(4, (0, x204)), (0, (3, 0)), (1, (3, 87)), (2, (0, a1)), (3, (0, a2))]) hC 4 dX11_gather_113 (by decide) rfl ei205 rfl ?_
            refine pm_goto (tgt := 8) hC dX11_gather_116 (by decide) ?_
            refine pm_lvsub [1, 2, 3, 4, 0] (lv' := [(0, (3, 0)), (1, (3, 87)), (2, (0, a1)), (3, (0, a2)), (4, (0, x204))]) rfl ?_
            exact ih14 _ (by omega) x204 V190 ⟨by omega, by omega⟩ hV192 hF194 rfl
  refine pm_lvsub [1, 2, 3, 4, 0] (lv' := [(0, (3, 0)), (1, (3, 87)), (2, (0, a1)), (3, (0, a2)), (4, (0, 0))]) rfl ?_
  exact L11 _ 0 V1 ⟨by decide, by decide⟩ hV3 hF4 rfl
set_option maxHeartbeats 4000000 in
set_option maxRecDepth 100000 in
theorem c_X0_isNever_87  : pm_K 1 yX0_isNever cX0_isNever 2 (some .boolean) (fun av V => av = [(3, 87)] ∧ pm_ok 0 90 V) (fun _ V r V' => ∃ y, r = some (0, y) ∧ (0 ≤ y ∧ y ≤ 1) ∧ V = V') := by
  refine pm_MT.of (by decide) ⟨Nat.le_refl _, by decide⟩ (fun av V h => by rw [h.1]; exact (by decide : pm_words [(3, 0)] ≤ 2)) ?_
  rintro X av V0 hC - hR ⟨rfl, hV0⟩
  change pm_J X 0 [(0, (3, 87))] [] 118 V0
  refine pm_iconst (v := 0) hC dX0_isNever_0 ?_
  refine pm_istore_n (lv' := [(1, (0, 0)), (0, (3, 87))]) hC dX0_isNever_1 (by decide) rfl ?_
  have L3 : ∀ (N5 : Nat) (x1 : Int), (0 ≤ x1 ∧ x1 ≤ 60) → (Int.toNat (60 - x1)) = N5 → pm_J X 2 [(0, (3, 87)), (1, (0, x1))] [] 118 V0 := by
    intro N5
    induction N5 using Nat.strongRecOn with
    | _ N5 ih6 =>
    intro x1 b2 hm4
    refine pm_iload_n hC 1 dX0_isNever_2 rfl ?_
    refine pm_aload_n hC 0 (by decide) dX0_isNever_3 rfl ?_
    obtain ⟨y7, e8⟩ : ∃ y, V0 87 0 = y := ⟨_, rfl⟩
    have b9 := hV0.get 87 0 (lo := 0) (hi := 60) (by decide) (by decide) rfl
    rw [e8] at b9
    refine pm_getf (v := y7) hC 87 fl_X0_9 rfl rfl (by decide) rfl e8 dX0_isNever_4 ?_
    refine pm_icmp_ge (tgt := 29) hC ⟨by omega, by omega⟩ ⟨by omega, by omega⟩ dX0_isNever_7 (by decide) (fun c10 => ?_) (fun c10 => ?_)
    · skip
      refine pm_iconst (v := 0) hC dX0_isNever_29 ?_
      exact pm_iret hC hR (pm_narZ (by omega)) ⟨0, rfl, ⟨by omega, by omega⟩, rfl⟩ dX0_isNever_30
    · skip
      refine pm_aload_n hC 0 (by decide) dX0_isNever_10 rfl ?_
      have e11 : V0 87 1 = 88 := hV0.one 87 1 (by decide) (by decide) rfl
      refine pm_getf (v := 88) hC 87 fl_X0_15 rfl rfl (by decide) rfl e11 dX0_isNever_11 ?_
      refine pm_iload_n hC 1 dX0_isNever_14 rfl ?_
      obtain ⟨y12, e13⟩ : ∃ y, V0 88 (x1 : Int).toNat = y := ⟨_, rfl⟩
      have b14 := hV0.get 88 (x1 : Int).toNat (lo := (-9223372036854775808)) (hi := 9223372036854775807) (by decide) (show _ < 60 by omega) rfl
      rw [e13] at b14
      refine pm_laload (len := 60) (v := y12) hC 88 rfl rfl (by decide) ⟨by omega, by omega⟩ (by decide) e13 dX0_isNever_15 ?_
      refine pm_lconst (x := 0) hC dX0_isNever_16 rfl ?_
      refine pm_lcmp hC ⟨by omega, by omega⟩ ⟨by decide, by decide⟩ dX0_isNever_17 (fun y15 b16 => ?_)
      refine pm_if_gt (tgt := 23) hC ⟨by omega, by omega⟩ dX0_isNever_18 (by decide) (fun c17 => ?_) (fun c17 => ?_)
      · skip
        obtain ⟨x18, ei19⟩ : ∃ y : Int, x1 + 1 = y := ⟨_, rfl⟩
        refine pm_iinc (y := x18) (lv' := [(1, (0, x18)), (0, (3, 87))]) hC 1 dX0_isNever_23 (by decide) rfl ei19 rfl ?_
        refine pm_goto (tgt := 2) hC dX0_isNever_26 (by decide) ?_
        refine pm_lvsub [1, 0] (lv' := [(0, (3, 87)), (1, (0, x18))]) rfl ?_
        exact ih6 _ (by omega) x18 ⟨by omega, by omega⟩ rfl
      · skip
        refine pm_iconst (v := 1) hC dX0_isNever_21 ?_
        exact pm_iret hC hR (pm_narZ (by omega)) ⟨1, rfl, ⟨by omega, by omega⟩, rfl⟩ dX0_isNever_22
  refine pm_lvsub [1, 0] (lv' := [(0, (3, 87)), (1, (0, 0))]) rfl ?_
  exact L3 _ 0 ⟨by decide, by decide⟩ rfl
set_option maxHeartbeats 4000000 in
set_option maxRecDepth 100000 in
theorem c_X4_factorOf_84_87 (a1 : Int) (h0 : 0 ≤ a1 ∧ a1 ≤ 119) : pm_K 1 yX4_factorOf cX4_factorOf 6 (some .long) (fun av V => av = [(3, 84), (3, 87), (0, a1)] ∧ pm_ok 0 90 V) (fun _ V r V' => ∃ y, r = some (1, y) ∧ (1 ≤ y ∧ y ≤ 9223372036854775807) ∧ V = V') := by
  refine pm_MT.of (by decide) ⟨Nat.le_refl _, by decide⟩ (fun av V h => by rw [h.1]; exact (by decide : pm_words [(3, 0), (3, 0), (0, 0)] ≤ 6)) ?_
  rintro X av V0 hC - hR ⟨rfl, hV0⟩
  change pm_J X 0 [(0, (3, 84)), (1, (3, 87)), (2, (0, a1))] [] 118 V0
  refine pm_iload_n hC 2 dX4_factorOf_0 rfl ?_
  refine pm_iconst (v := 2) hC dX4_factorOf_1 ?_
  refine pm_idiv hC ⟨by omega, by omega, by omega⟩ ⟨by decide, by decide, by decide⟩ dX4_factorOf_2 ?_
  refine pm_istore_n (lv' := [(3, (0, (a1 / 2))), (0, (3, 84)), (1, (3, 87)), (2, (0, a1))]) hC dX4_factorOf_3 (by decide) rfl ?_
  refine pm_iload_n hC 3 dX4_factorOf_4 rfl ?_
  refine pm_iconst (v := 2) hC dX4_factorOf_5 ?_
  refine pm_irem hC ⟨by omega, by omega, by omega⟩ ⟨by decide, by decide, by decide⟩ dX4_factorOf_6 ?_
  refine pm_if_ne (tgt := 19) hC ⟨by omega, by omega⟩ dX4_factorOf_7 (by decide) (fun c1 => ?_) (fun c1 => ?_)
  · skip
    refine pm_aload_n hC 2 (by decide) dX4_factorOf_19 rfl ?_
    have e2 : V0 87 2 = 89 := hV0.one 87 2 (by decide) (by decide) rfl
    refine pm_getf (v := 89) hC 87 fl_X4_55 rfl rfl (by decide) rfl e2 dX4_factorOf_20 ?_
    refine pm_iload_n hC 0 dX4_factorOf_23 rfl ?_
    obtain ⟨y3, e4⟩ : ∃ y, V0 89 ((a1 / 2) : Int).toNat = y := ⟨_, rfl⟩
    have b5 := hV0.get 89 ((a1 / 2) : Int).toNat (lo := (-9223372036854775808)) (hi := 9223372036854775807) (by decide) (show _ < 60 by omega) rfl
    rw [e4] at b5
    refine pm_laload (len := 60) (v := y3) hC 89 rfl rfl (by decide) ⟨by omega, by omega⟩ (by decide) e4 dX4_factorOf_24 ?_
    refine pm_lstore (lv' := [(4, (1, y3)), (3, (0, (a1 / 2))), (0, (3, 84)), (1, (3, 87)), (2, (0, a1))]) hC dX4_factorOf_25 (by decide) rfl ?_
    refine pm_lconst (x := 1) hC dX4_factorOf_27 rfl ?_
    refine pm_lload hC 0 dX4_factorOf_28 rfl ?_
    refine pm_mmaxL hC 4168 4169 1018 4170 ⟨by decide, by decide⟩ ⟨by omega, by omega⟩ (by decide) wL_X4_58 wS_mmaxL wI_math wC_mmaxL (Nat.le_of_ble_eq_true rfl) dX4_factorOf_30 (fun y6 b7 => ?_)
    exact pm_lret hC hR ⟨y6, rfl, ⟨by omega, by omega⟩, rfl⟩ dX4_factorOf_33
  · skip
    refine pm_aload_n hC 1 (by decide) dX4_factorOf_10 rfl ?_
    have e8 : V0 84 1 = 85 := hV0.one 84 1 (by decide) (by decide) rfl
    refine pm_getf (v := 85) hC 84 fl_X4_51 rfl rfl (by decide) rfl e8 dX4_factorOf_11 ?_
    refine pm_iload_n hC 0 dX4_factorOf_14 rfl ?_
    obtain ⟨y9, e10⟩ : ∃ y, V0 85 ((a1 / 2) : Int).toNat = y := ⟨_, rfl⟩
    have b11 := hV0.get 85 ((a1 / 2) : Int).toNat (lo := (-9223372036854775808)) (hi := 9223372036854775807) (by decide) (show _ < 60 by omega) rfl
    rw [e10] at b11
    refine pm_laload (len := 60) (v := y9) hC 85 rfl rfl (by decide) ⟨by omega, by omega⟩ (by decide) e10 dX4_factorOf_15 ?_
    refine pm_goto (tgt := 25) hC dX4_factorOf_16 (by decide) ?_
    refine pm_lstore (lv' := [(4, (1, y9)), (3, (0, (a1 / 2))), (0, (3, 84)), (1, (3, 87)), (2, (0, a1))]) hC dX4_factorOf_25 (by decide) rfl ?_
    refine pm_lconst (x := 1) hC dX4_factorOf_27 rfl ?_
    refine pm_lload hC 0 dX4_factorOf_28 rfl ?_
    refine pm_mmaxL hC 4168 4169 1018 4170 ⟨by decide, by decide⟩ ⟨by omega, by omega⟩ (by decide) wL_X4_58 wS_mmaxL wI_math wC_mmaxL (Nat.le_of_ble_eq_true rfl) dX4_factorOf_30 (fun y12 b13 => ?_)
    exact pm_lret hC hR ⟨y12, rfl, ⟨by omega, by omega⟩, rfl⟩ dX4_factorOf_33
set_option maxHeartbeats 4000000 in
set_option maxRecDepth 100000 in
theorem c_X4_factorOf_87_84 (a1 : Int) (h0 : 0 ≤ a1 ∧ a1 ≤ 119) : pm_K 1 yX4_factorOf cX4_factorOf 6 (some .long) (fun av V => av = [(3, 87), (3, 84), (0, a1)] ∧ pm_ok 0 90 V) (fun _ V r V' => ∃ y, r = some (1, y) ∧ (1 ≤ y ∧ y ≤ 9223372036854775807) ∧ V = V') := by
  refine pm_MT.of (by decide) ⟨Nat.le_refl _, by decide⟩ (fun av V h => by rw [h.1]; exact (by decide : pm_words [(3, 0), (3, 0), (0, 0)] ≤ 6)) ?_
  rintro X av V0 hC - hR ⟨rfl, hV0⟩
  change pm_J X 0 [(0, (3, 87)), (1, (3, 84)), (2, (0, a1))] [] 118 V0
  refine pm_iload_n hC 2 dX4_factorOf_0 rfl ?_
  refine pm_iconst (v := 2) hC dX4_factorOf_1 ?_
  refine pm_idiv hC ⟨by omega, by omega, by omega⟩ ⟨by decide, by decide, by decide⟩ dX4_factorOf_2 ?_
  refine pm_istore_n (lv' := [(3, (0, (a1 / 2))), (0, (3, 87)), (1, (3, 84)), (2, (0, a1))]) hC dX4_factorOf_3 (by decide) rfl ?_
  refine pm_iload_n hC 3 dX4_factorOf_4 rfl ?_
  refine pm_iconst (v := 2) hC dX4_factorOf_5 ?_
  refine pm_irem hC ⟨by omega, by omega, by omega⟩ ⟨by decide, by decide, by decide⟩ dX4_factorOf_6 ?_
  refine pm_if_ne (tgt := 19) hC ⟨by omega, by omega⟩ dX4_factorOf_7 (by decide) (fun c1 => ?_) (fun c1 => ?_)
  · skip
    refine pm_aload_n hC 2 (by decide) dX4_factorOf_19 rfl ?_
    have e2 : V0 84 2 = 86 := hV0.one 84 2 (by decide) (by decide) rfl
    refine pm_getf (v := 86) hC 84 fl_X4_55 rfl rfl (by decide) rfl e2 dX4_factorOf_20 ?_
    refine pm_iload_n hC 0 dX4_factorOf_23 rfl ?_
    obtain ⟨y3, e4⟩ : ∃ y, V0 86 ((a1 / 2) : Int).toNat = y := ⟨_, rfl⟩
    have b5 := hV0.get 86 ((a1 / 2) : Int).toNat (lo := (-9223372036854775808)) (hi := 9223372036854775807) (by decide) (show _ < 60 by omega) rfl
    rw [e4] at b5
    refine pm_laload (len := 60) (v := y3) hC 86 rfl rfl (by decide) ⟨by omega, by omega⟩ (by decide) e4 dX4_factorOf_24 ?_
    refine pm_lstore (lv' := [(4, (1, y3)), (3, (0, (a1 / 2))), (0, (3, 87)), (1, (3, 84)), (2, (0, a1))]) hC dX4_factorOf_25 (by decide) rfl ?_
    refine pm_lconst (x := 1) hC dX4_factorOf_27 rfl ?_
    refine pm_lload hC 0 dX4_factorOf_28 rfl ?_
    refine pm_mmaxL hC 4168 4169 1018 4170 ⟨by decide, by decide⟩ ⟨by omega, by omega⟩ (by decide) wL_X4_58 wS_mmaxL wI_math wC_mmaxL (Nat.le_of_ble_eq_true rfl) dX4_factorOf_30 (fun y6 b7 => ?_)
    exact pm_lret hC hR ⟨y6, rfl, ⟨by omega, by omega⟩, rfl⟩ dX4_factorOf_33
  · skip
    refine pm_aload_n hC 1 (by decide) dX4_factorOf_10 rfl ?_
    have e8 : V0 87 1 = 88 := hV0.one 87 1 (by decide) (by decide) rfl
    refine pm_getf (v := 88) hC 87 fl_X4_51 rfl rfl (by decide) rfl e8 dX4_factorOf_11 ?_
    refine pm_iload_n hC 0 dX4_factorOf_14 rfl ?_
    obtain ⟨y9, e10⟩ : ∃ y, V0 88 ((a1 / 2) : Int).toNat = y := ⟨_, rfl⟩
    have b11 := hV0.get 88 ((a1 / 2) : Int).toNat (lo := (-9223372036854775808)) (hi := 9223372036854775807) (by decide) (show _ < 60 by omega) rfl
    rw [e10] at b11
    refine pm_laload (len := 60) (v := y9) hC 88 rfl rfl (by decide) ⟨by omega, by omega⟩ (by decide) e10 dX4_factorOf_15 ?_
    refine pm_goto (tgt := 25) hC dX4_factorOf_16 (by decide) ?_
    refine pm_lstore (lv' := [(4, (1, y9)), (3, (0, (a1 / 2))), (0, (3, 87)), (1, (3, 84)), (2, (0, a1))]) hC dX4_factorOf_25 (by decide) rfl ?_
    refine pm_lconst (x := 1) hC dX4_factorOf_27 rfl ?_
    refine pm_lload hC 0 dX4_factorOf_28 rfl ?_
    refine pm_mmaxL hC 4168 4169 1018 4170 ⟨by decide, by decide⟩ ⟨by omega, by omega⟩ (by decide) wL_X4_58 wS_mmaxL wI_math wC_mmaxL (Nat.le_of_ble_eq_true rfl) dX4_factorOf_30 (fun y12 b13 => ?_)
    exact pm_lret hC hR ⟨y12, rfl, ⟨by omega, by omega⟩, rfl⟩ dX4_factorOf_33
set_option maxHeartbeats 4000000 in
set_option maxRecDepth 100000 in
theorem c_X4_roughQuotient_84_87 (a1 : Int) (h0 : 0 ≤ a1 ∧ a1 ≤ 60) : pm_K 2 yX4_roughQuotient cX4_roughQuotient 9 (some .double) (fun av V => av = [(3, 84), (3, 87), (0, a1)] ∧ pm_ok 0 90 V) (fun _ V r V' => ∃ y, r = some (2, y) ∧ True ∧ V = V') := by
  refine pm_MT.of (by decide) ⟨Nat.le_refl _, by decide⟩ (fun av V h => by rw [h.1]; exact (by decide : pm_words [(3, 0), (3, 0), (0, 0)] ≤ 9)) ?_
  rintro X av V0 hC - hR ⟨rfl, hV0⟩
  change pm_J X 0 [(0, (3, 84)), (1, (3, 87)), (2, (0, a1))] [] 118 V0
  refine pm_dconst1 hC dX4_roughQuotient_0 (fun r1 => ?_)
  refine pm_dstore_n (lv' := [(3, (2, r1)), (0, (3, 84)), (1, (3, 87)), (2, (0, a1))]) hC dX4_roughQuotient_1 (by decide) rfl ?_
  refine pm_iconst (v := 0) hC dX4_roughQuotient_2 ?_
  refine pm_istore (lv' := [(5, (0, 0)), (3, (2, r1)), (0, (3, 84)), (1, (3, 87)), (2, (0, a1))]) hC dX4_roughQuotient_3 (by decide) rfl ?_
  refine pm_iconst (v := 0) hC dX4_roughQuotient_5 ?_
  refine pm_istore (lv' := [(6, (0, 0)), (5, (0, 0)), (3, (2, r1)), (0, (3, 84)), (1, (3, 87)), (2, (0, a1))]) hC dX4_roughQuotient_6 (by decide) rfl ?_
  refine pm_iconst (v := 0) hC dX4_roughQuotient_8 ?_
  refine pm_istore (lv' := [(7, (0, 0)), (6, (0, 0)), (5, (0, 0)), (3, (2, r1)), (0, (3, 84)), (1, (3, 87)), (2, (0, a1))]) hC dX4_roughQuotient_9 (by decide) rfl ?_
  have L12 : ∀ (N14 : Nat) (x2 : Int) (x3 : Int) (x5 : Int) (x7 : Int), (0 ≤ x3 ∧ x3 ≤ 120) → (0 ≤ x5 ∧ x5 ≤ 120) → (0 ≤ x7 ∧ x7 ≤ 240) → (x3 + x5 = x7) → (x3 ≤ 2 * a1) → (x5 ≤ 2 * a1) → (Int.toNat (240 - x7)) = N14 → pm_J X 11 [(0, (3, 84)), (1, (3, 87)), (2, (0, a1)), (3, (2, x2)), (5, (0, x3)), (6, (0, x5)), (7, (0, x7))] [] 118 V0 := by
    intro N14
    induction N14 using Nat.strongRecOn with
    | _ N14 ih15 =>
    intro x2 x3 x5 x7 b4 b6 b8 b9 b10 b11 hm13
    refine pm_iload hC 6 dX4_roughQuotient_11 rfl ?_
    refine pm_iconst (v := 4) hC dX4_roughQuotient_13 ?_
    refine pm_iload_n hC 2 dX4_roughQuotient_14 rfl ?_
    refine pm_imul hC dX4_roughQuotient_15 ?_
    refine pm_icmp_ge (tgt := 90) hC ⟨by omega, by omega⟩ ⟨by omega, by omega⟩ dX4_roughQuotient_16 (by decide) (fun c16 => ?_) (fun c16 => ?_)
    · skip
      refine pm_dload_n hC 3 dX4_roughQuotient_90 rfl ?_
      exact pm_dret hC hR ⟨x2, rfl, trivial, rfl⟩ dX4_roughQuotient_91
    · skip
      refine pm_iload hC 5 dX4_roughQuotient_19 rfl ?_
      refine pm_iconst (v := 2) hC dX4_roughQuotient_21 ?_
      refine pm_iload_n hC 2 dX4_roughQuotient_22 rfl ?_
      refine pm_imul hC dX4_roughQuotient_23 ?_
      refine pm_icmp_ge (tgt := 41) hC ⟨by omega, by omega⟩ ⟨by omega, by omega⟩ dX4_roughQuotient_24 (by decide) (fun c17 => ?_) (fun c17 => ?_)
      · skip
        refine pm_iconst (v := 1) hC dX4_roughQuotient_41 ?_
        refine pm_goto (tgt := 46) hC dX4_roughQuotient_42 (by decide) ?_
        refine pm_istore (lv' := [(8, (0, 1)), (0, (3, 84)), (1, (3, 87)), (2, (0, a1)), (3, (2, x2)), (5, (0, x3)), (6, (0, x5)), (7, (0, x7))]) hC dX4_roughQuotient_46 (by decide) rfl ?_
        refine pm_iload hC 0 dX4_roughQuotient_48 rfl ?_
        refine pm_if_eq (tgt := 70) hC ⟨by decide, by decide⟩ dX4_roughQuotient_50 (by decide) (fun c18 => ?_) (fun c18 => ?_)
        · skip
          exfalso; omega
        · skip
          refine pm_dload_n hC 4 dX4_roughQuotient_53 rfl ?_
          refine pm_aload_n hC 1 (by decide) dX4_roughQuotient_54 rfl ?_
          refine pm_aload_n hC 2 (by decide) dX4_roughQuotient_55 rfl ?_
          refine pm_iload hC 5 dX4_roughQuotient_56 rfl ?_
          refine pm_callS (as := [(3, 84), (3, 87), (0, x3)]) (st := [(2, x2)]) hC (c_X4_factorOf_84_87 x3 ⟨by omega, by omega⟩) lm_X4_47 ls_X4_factorOf (by decide) (by decide) rfl rfl (Nat.le_of_ble_eq_true rfl) ⟨Nat.le_refl _, Or.inl rfl⟩ dX4_roughQuotient_58 ⟨rfl, hV0⟩ (fun r19 V20 hp21 => ?_)
          obtain ⟨y22, rfl, b23, rfl⟩ := hp21
          change pm_J X 61 [(8, (0, 1)), (0, (3, 84)), (1, (3, 87)), (2, (0, a1)), (3, (2, x2)), (5, (0, x3)), (6, (0, x5)), (7, (0, x7))] [(1, y22), (2, x2)] 118 V0
          refine pm_l2d hC dX4_roughQuotient_61 (fun r24 => ?_)
          refine pm_dmul hC dX4_roughQuotient_62 (fun r25 => ?_)
          refine pm_dstore_n (lv' := [(3, (2, r25)), (8, (0, 1)), (0, (3, 84)), (1, (3, 87)), (2, (0, a1)), (5, (0, x3)), (6, (0, x5)), (7, (0, x7))]) hC dX4_roughQuotient_63 (by decide) rfl ?_
          obtain ⟨x26, ei27⟩ : ∃ y : Int, x3 + 1 = y := ⟨_, rfl⟩
          refine pm_iinc (y := x26) (lv' := [(5, (0, x26)), (3, (2, r25)), (8, (0, 1)), (0, (3, 84)), (1, (3, 87)), (2, (0, a1)), (6, (0, x5)), (7, (0, x7))]) hC 5 dX4_roughQuotient_64 (by decide) rfl ei27 rfl ?_
          refine pm_goto (tgt := 84) hC dX4_roughQuotient_67 (by decide) ?_
          obtain ⟨x28, ei29⟩ : ∃ y : Int, x7 + 1 = y := ⟨_, rfl⟩
          refine pm_iinc (y := x28) (lv' := [(7, (0, x28)), (5, (0, x26)), (3, (2, r25)), (8, (0, 1)), (0, (3, 84)), (1, (3, 87)), (2, (0, a1)), (6, (0, x5))]) hC 7 dX4_roughQuotient_84 (by decide) rfl ei29 rfl ?_
          refine pm_goto (tgt := 11) hC dX4_roughQuotient_87 (by decide) ?_
          refine pm_lvsub [4, 5, 6, 2, 1, 7, 0] (lv' := [(0, (3, 84)), (1, (3, 87)), (2, (0, a1)), (3, (2, r25)), (5, (0, x26)), (6, (0, x5)), (7, (0, x28))]) rfl ?_
          exact ih15 _ (by omega) r25 x26 x5 x28 ⟨by omega, by omega⟩ ⟨by omega, by omega⟩ ⟨by omega, by omega⟩ (by omega) (by omega) (by omega) rfl
      · skip
        refine pm_iload hC 4 dX4_roughQuotient_27 rfl ?_
        refine pm_iconst (v := 2) hC dX4_roughQuotient_29 ?_
        refine pm_iload_n hC 2 dX4_roughQuotient_30 rfl ?_
        refine pm_imul hC dX4_roughQuotient_31 ?_
        refine pm_icmp_ge (tgt := 45) hC ⟨by omega, by omega⟩ ⟨by omega, by omega⟩ dX4_roughQuotient_32 (by decide) (fun c30 => ?_) (fun c30 => ?_)
        · skip
          refine pm_iconst (v := 0) hC dX4_roughQuotient_45 ?_
          refine pm_istore (lv' := [(8, (0, 0)), (0, (3, 84)), (1, (3, 87)), (2, (0, a1)), (3, (2, x2)), (5, (0, x3)), (6, (0, x5)), (7, (0, x7))]) hC dX4_roughQuotient_46 (by decide) rfl ?_
          refine pm_iload hC 0 dX4_roughQuotient_48 rfl ?_
          refine pm_if_eq (tgt := 70) hC ⟨by decide, by decide⟩ dX4_roughQuotient_50 (by decide) (fun c31 => ?_) (fun c31 => ?_)
          · skip
            refine pm_dload_n hC 4 dX4_roughQuotient_70 rfl ?_
            refine pm_aload_n hC 2 (by decide) dX4_roughQuotient_71 rfl ?_
            refine pm_aload_n hC 1 (by decide) dX4_roughQuotient_72 rfl ?_
            refine pm_iload hC 6 dX4_roughQuotient_73 rfl ?_
            refine pm_callS (as := [(3, 87), (3, 84), (0, x5)]) (st := [(2, x2)]) hC (c_X4_factorOf_87_84 x5 ⟨by omega, by omega⟩) lm_X4_47 ls_X4_factorOf (by decide) (by decide) rfl rfl (Nat.le_of_ble_eq_true rfl) ⟨Nat.le_refl _, Or.inl rfl⟩ dX4_roughQuotient_75 ⟨rfl, hV0⟩ (fun r32 V33 hp34 => ?_)
            obtain ⟨y35, rfl, b36, rfl⟩ := hp34
            change pm_J X 78 [(8, (0, 0)), (0, (3, 84)), (1, (3, 87)), (2, (0, a1)), (3, (2, x2)), (5, (0, x3)), (6, (0, x5)), (7, (0, x7))] [(1, y35), (2, x2)] 118 V0
            refine pm_l2d hC dX4_roughQuotient_78 (fun r37 => ?_)
            refine pm_ddiv hC dX4_roughQuotient_79 (fun r38 => ?_)
            refine pm_dstore_n (lv' := [(3, (2, r38)), (8, (0, 0)), (0, (3, 84)), (1, (3, 87)), (2, (0, a1)), (5, (0, x3)), (6, (0, x5)), (7, (0, x7))]) hC dX4_roughQuotient_80 (by decide) rfl ?_
            obtain ⟨x39, ei40⟩ : ∃ y : Int, x5 + 1 = y := ⟨_, rfl⟩
            refine pm_iinc (y := x39) (lv' := [(6, (0, x39)), (3, (2, r38)), (8, (0, 0)), (0, (3, 84)), (1, (3, 87)), (2, (0, a1)), (5, (0, x3)), (7, (0, x7))]) hC 6 dX4_roughQuotient_81 (by decide) rfl ei40 rfl ?_
            obtain ⟨x41, ei42⟩ : ∃ y : Int, x7 + 1 = y := ⟨_, rfl⟩
            refine pm_iinc (y := x41) (lv' := [(7, (0, x41)), (6, (0, x39)), (3, (2, r38)), (8, (0, 0)), (0, (3, 84)), (1, (3, 87)), (2, (0, a1)), (5, (0, x3))]) hC 7 dX4_roughQuotient_84 (by decide) rfl ei42 rfl ?_
            refine pm_goto (tgt := 11) hC dX4_roughQuotient_87 (by decide) ?_
            refine pm_lvsub [4, 5, 6, 2, 7, 1, 0] (lv' := [(0, (3, 84)), (1, (3, 87)), (2, (0, a1)), (3, (2, r38)), (5, (0, x3)), (6, (0, x39)), (7, (0, x41))]) rfl ?_
            exact ih15 _ (by omega) r38 x3 x39 x41 ⟨by omega, by omega⟩ ⟨by omega, by omega⟩ ⟨by omega, by omega⟩ (by omega) (by omega) (by omega) rfl
          · skip
            exfalso; omega
        · skip
          refine pm_dload_n hC 3 dX4_roughQuotient_35 rfl ?_
          refine pm_dconst1 hC dX4_roughQuotient_36 (fun r43 => ?_)
          refine pm_dcmp hC dX4_roughQuotient_37 (fun y44 b45 => ?_)
          have b45 := And.intro b45.1 b45.2
          refine pm_if_gt (tgt := 45) hC ⟨by omega, by omega⟩ dX4_roughQuotient_38 (by decide) (fun c46 => ?_) (fun c46 => ?_)
          · skip
            refine pm_iconst (v := 0) hC dX4_roughQuotient_45 ?_
            refine pm_istore (lv' := [(8, (0, 0)), (0, (3, 84)), (1, (3, 87)), (2, (0, a1)), (3, (2, x2)), (5, (0, x3)), (6, (0, x5)), (7, (0, x7))]) hC dX4_roughQuotient_46 (by decide) rfl ?_
            refine pm_iload hC 0 dX4_roughQuotient_48 rfl ?_
            refine pm_if_eq (tgt := 70) hC ⟨by decide, by decide⟩ dX4_roughQuotient_50 (by decide) (fun c47 => ?_) (fun c47 => ?_)
            · skip
              refine pm_dload_n hC 4 dX4_roughQuotient_70 rfl ?_
              refine pm_aload_n hC 2 (by decide) dX4_roughQuotient_71 rfl ?_
              refine pm_aload_n hC 1 (by decide) dX4_roughQuotient_72 rfl ?_
              refine pm_iload hC 6 dX4_roughQuotient_73 rfl ?_
              refine pm_callS (as := [(3, 87), (3, 84), (0, x5)]) (st := [(2, x2)]) hC (c_X4_factorOf_87_84 x5 ⟨by omega, by omega⟩) lm_X4_47 ls_X4_factorOf (by decide) (by decide) rfl rfl (Nat.le_of_ble_eq_true rfl) ⟨Nat.le_refl _, Or.inl rfl⟩ dX4_roughQuotient_75 ⟨rfl, hV0⟩ (fun r48 V49 hp50 => ?_)
              obtain ⟨y51, rfl, b52, rfl⟩ := hp50
              change pm_J X 78 [(8, (0, 0)), (0, (3, 84)), (1, (3, 87)), (2, (0, a1)), (3, (2, x2)), (5, (0, x3)), (6, (0, x5)), (7, (0, x7))] [(1, y51), (2, x2)] 118 V0
              refine pm_l2d hC dX4_roughQuotient_78 (fun r53 => ?_)
              refine pm_ddiv hC dX4_roughQuotient_79 (fun r54 => ?_)
              refine pm_dstore_n (lv' := [(3, (2, r54)), (8, (0, 0)), (0, (3, 84)), (1, (3, 87)), (2, (0, a1)), (5, (0, x3)), (6, (0, x5)), (7, (0, x7))]) hC dX4_roughQuotient_80 (by decide) rfl ?_
              obtain ⟨x55, ei56⟩ : ∃ y : Int, x5 + 1 = y := ⟨_, rfl⟩
              refine pm_iinc (y := x55) (lv' := [(6, (0, x55)), (3, (2, r54)), (8, (0, 0)), (0, (3, 84)), (1, (3, 87)), (2, (0, a1)), (5, (0, x3)), (7, (0, x7))]) hC 6 dX4_roughQuotient_81 (by decide) rfl ei56 rfl ?_
              obtain ⟨x57, ei58⟩ : ∃ y : Int, x7 + 1 = y := ⟨_, rfl⟩
              refine pm_iinc (y := x57) (lv' := [(7, (0, x57)), (6, (0, x55)), (3, (2, r54)), (8, (0, 0)), (0, (3, 84)), (1, (3, 87)), (2, (0, a1)), (5, (0, x3))]) hC 7 dX4_roughQuotient_84 (by decide) rfl ei58 rfl ?_
              refine pm_goto (tgt := 11) hC dX4_roughQuotient_87 (by decide) ?_
              refine pm_lvsub [4, 5, 6, 2, 7, 1, 0] (lv' := [(0, (3, 84)), (1, (3, 87)), (2, (0, a1)), (3, (2, r54)), (5, (0, x3)), (6, (0, x55)), (7, (0, x57))]) rfl ?_
              exact ih15 _ (by omega) r54 x3 x55 x57 ⟨by omega, by omega⟩ ⟨by omega, by omega⟩ ⟨by omega, by omega⟩ (by omega) (by omega) (by omega) rfl
            · skip
              exfalso; omega
          · skip
            refine pm_iconst (v := 1) hC dX4_roughQuotient_41 ?_
            refine pm_goto (tgt := 46) hC dX4_roughQuotient_42 (by decide) ?_
            refine pm_istore (lv' := [(8, (0, 1)), (0, (3, 84)), (1, (3, 87)), (2, (0, a1)), (3, (2, x2)), (5, (0, x3)), (6, (0, x5)), (7, (0, x7))]) hC dX4_roughQuotient_46 (by decide) rfl ?_
            refine pm_iload hC 0 dX4_roughQuotient_48 rfl ?_
            refine pm_if_eq (tgt := 70) hC ⟨by decide, by decide⟩ dX4_roughQuotient_50 (by decide) (fun c59 => ?_) (fun c59 => ?_)
            · skip
              exfalso; omega
            · skip
              refine pm_dload_n hC 4 dX4_roughQuotient_53 rfl ?_
              refine pm_aload_n hC 1 (by decide) dX4_roughQuotient_54 rfl ?_
              refine pm_aload_n hC 2 (by decide) dX4_roughQuotient_55 rfl ?_
              refine pm_iload hC 5 dX4_roughQuotient_56 rfl ?_
              refine pm_callS (as := [(3, 84), (3, 87), (0, x3)]) (st := [(2, x2)]) hC (c_X4_factorOf_84_87 x3 ⟨by omega, by omega⟩) lm_X4_47 ls_X4_factorOf (by decide) (by decide) rfl rfl (Nat.le_of_ble_eq_true rfl) ⟨Nat.le_refl _, Or.inl rfl⟩ dX4_roughQuotient_58 ⟨rfl, hV0⟩ (fun r60 V61 hp62 => ?_)
              obtain ⟨y63, rfl, b64, rfl⟩ := hp62
              change pm_J X 61 [(8, (0, 1)), (0, (3, 84)), (1, (3, 87)), (2, (0, a1)), (3, (2, x2)), (5, (0, x3)), (6, (0, x5)), (7, (0, x7))] [(1, y63), (2, x2)] 118 V0
              refine pm_l2d hC dX4_roughQuotient_61 (fun r65 => ?_)
              refine pm_dmul hC dX4_roughQuotient_62 (fun r66 => ?_)
              refine pm_dstore_n (lv' := [(3, (2, r66)), (8, (0, 1)), (0, (3, 84)), (1, (3, 87)), (2, (0, a1)), (5, (0, x3)), (6, (0, x5)), (7, (0, x7))]) hC dX4_roughQuotient_63 (by decide) rfl ?_
              obtain ⟨x67, ei68⟩ : ∃ y : Int, x3 + 1 = y := ⟨_, rfl⟩
              refine pm_iinc (y := x67) (lv' := [(5, (0, x67)), (3, (2, r66)), (8, (0, 1)), (0, (3, 84)), (1, (3, 87)), (2, (0, a1)), (6, (0, x5)), (7, (0, x7))]) hC 5 dX4_roughQuotient_64 (by decide) rfl ei68 rfl ?_
              refine pm_goto (tgt := 84) hC dX4_roughQuotient_67 (by decide) ?_
              obtain ⟨x69, ei70⟩ : ∃ y : Int, x7 + 1 = y := ⟨_, rfl⟩
              refine pm_iinc (y := x69) (lv' := [(7, (0, x69)), (5, (0, x67)), (3, (2, r66)), (8, (0, 1)), (0, (3, 84)), (1, (3, 87)), (2, (0, a1)), (6, (0, x5))]) hC 7 dX4_roughQuotient_84 (by decide) rfl ei70 rfl ?_
              refine pm_goto (tgt := 11) hC dX4_roughQuotient_87 (by decide) ?_
              refine pm_lvsub [4, 5, 6, 2, 1, 7, 0] (lv' := [(0, (3, 84)), (1, (3, 87)), (2, (0, a1)), (3, (2, r66)), (5, (0, x67)), (6, (0, x5)), (7, (0, x69))]) rfl ?_
              exact ih15 _ (by omega) r66 x67 x5 x69 ⟨by omega, by omega⟩ ⟨by omega, by omega⟩ ⟨by omega, by omega⟩ (by omega) (by omega) (by omega) rfl
  refine pm_lvsub [4, 5, 6, 3, 2, 1, 0] (lv' := [(0, (3, 84)), (1, (3, 87)), (2, (0, a1)), (3, (2, r1)), (5, (0, 0)), (6, (0, 0)), (7, (0, 0))]) rfl ?_
  exact L12 _ r1 0 0 0 ⟨by decide, by decide⟩ ⟨by decide, by decide⟩ ⟨by decide, by decide⟩ (by omega) (by omega) (by omega) rfl
