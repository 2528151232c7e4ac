set_option maxHeartbeats 4000000 in
set_option maxRecDepth 100000 in
theorem B_X12_in (a1 a2 a3 : Int) (h0 : (-2147483648) ≤ a1 ∧ a1 ≤ 2147483647) (h1 : (-2147483648) ≤ a2 ∧ a2 ≤ 2147483647) (h2 : (-2147483648) ≤ a3 ∧ a3 ≤ 2147483647) : pm_K 1 yX12_in cX12_in 3 (some .boolean) (fun av V => av = [(0, a1), (0, a2), (0, a3)] ∧ pm_oq pm_qB V) (fun _ V r V' => ∃ y, r = some (0, y) ∧ (0 ≤ y ∧ y ≤ 1 ∧ (y = 1 → a2 ≤ a1 ∧ a1 ≤ a3)) ∧ V = V') := by
  refine pm_MT.of (by decide) ⟨Nat.le_refl _, by decide⟩ (fun av V h => by rw [h.1]; exact (by decide : pm_words [(0, 0), (0, 0), (0, 0)] ≤ 3)) ?_
  rintro X av V0 hC - hR ⟨rfl, hV0⟩
  change pm_J X 0 [(0, (0, a1)), (1, (0, a2)), (2, (0, a3))] [] 118 V0
  refine pm_iload_n hC 0 dX12_in_0 rfl ?_
  refine pm_iload_n hC 1 dX12_in_1 rfl ?_
  refine pm_icmp_lt (tgt := 14) hC ⟨by omega, by omega⟩ ⟨by omega, by omega⟩ dX12_in_2 (by decide) (fun c1 => ?_) (fun c1 => ?_)
  · skip
    refine pm_iconst (v := 0) hC dX12_in_14 ?_
    exact pm_iret hC hR (pm_narZ (by omega)) ⟨0, rfl, ⟨by omega, by omega, by omega⟩, rfl⟩ dX12_in_15
  · skip
    refine pm_iload_n hC 0 dX12_in_5 rfl ?_
    refine pm_iload_n hC 2 dX12_in_6 rfl ?_
    refine pm_icmp_gt (tgt := 14) hC ⟨by omega, by omega⟩ ⟨by omega, by omega⟩ dX12_in_7 (by decide) (fun c2 => ?_) (fun c2 => ?_)
    · skip
      refine pm_iconst (v := 0) hC dX12_in_14 ?_
      exact pm_iret hC hR (pm_narZ (by omega)) ⟨0, rfl, ⟨by omega, by omega, by omega⟩, rfl⟩ dX12_in_15
    · skip
      refine pm_iconst (v := 1) hC dX12_in_10 ?_
      refine pm_goto (tgt := 15) hC dX12_in_11 (by decide) ?_
      exact pm_iret hC hR (pm_narZ (by omega)) ⟨1, rfl, ⟨by omega, by omega, by omega⟩, rfl⟩ dX12_in_15
set_option maxHeartbeats 4000000 in
set_option maxRecDepth 100000 in
theorem B_X12_far (a1 : Int) (h0 : (-2147483647) ≤ a1 ∧ a1 ≤ 2147483647) : pm_K 1 yX12_far cX12_far 1 (some .int) (fun av V => av = [(0, a1)] ∧ pm_oq pm_qB V) (fun _ V r V' => ∃ y, r = some (0, y) ∧ (0 ≤ y ∧ y ≤ 2147483647 ∧ (0 ≤ a1 → y = a1) ∧ (a1 < 0 → y = -a1)) ∧ V = V') := by
  refine pm_MT.of (by decide) ⟨Nat.le_refl _, by decide⟩ (fun av V h => by rw [h.1]; exact (by decide : pm_words [(0, 0)] ≤ 1)) ?_
  rintro X av V0 hC - hR ⟨rfl, hV0⟩
  change pm_J X 0 [(0, (0, a1))] [] 118 V0
  refine pm_iload_n hC 0 dX12_far_0 rfl ?_
  refine pm_if_ge (tgt := 9) hC ⟨by omega, by omega⟩ dX12_far_1 (by decide) (fun c1 => ?_) (fun c1 => ?_)
  · skip
    refine pm_iload_n hC 0 dX12_far_9 rfl ?_
    exact pm_iret hC hR pm_nar0 ⟨a1, rfl, ⟨by omega, by omega, by omega, by omega⟩, rfl⟩ dX12_far_10
  · skip
    refine pm_iload_n hC 0 dX12_far_4 rfl ?_
    refine pm_ineg hC dX12_far_5 ?_
    refine pm_goto (tgt := 10) hC dX12_far_6 (by decide) ?_
    exact pm_iret hC hR pm_nar0 ⟨(-a1), rfl, ⟨by omega, by omega, by omega, by omega⟩, rfl⟩ dX12_far_10
set_option maxHeartbeats 4000000 in
set_option maxRecDepth 100000 in
theorem B_X12_rank (a1 : Int) (h0 : (-2147483648) ≤ a1 ∧ a1 ≤ 2147483647) : pm_K 1 yX12_rank cX12_rank 1 (some .int) (fun av V => av = [(0, a1)] ∧ pm_oq pm_qB V) (fun _ V r V' => ∃ y, r = some (0, y) ∧ (0 ≤ y ∧ y ≤ 2) ∧ V = V') := by
  refine pm_MT.of (by decide) ⟨Nat.le_refl _, by decide⟩ (fun av V h => by rw [h.1]; exact (by decide : pm_words [(0, 0)] ≤ 1)) ?_
  rintro X av V0 hC - hR ⟨rfl, hV0⟩
  change pm_J X 0 [(0, (0, a1))] [] 118 V0
  refine pm_iload_n hC 0 dX12_rank_0 rfl ?_
  refine pm_iconst (v := 4) hC dX12_rank_1 ?_
  refine pm_icmp_ne (tgt := 9) hC ⟨by omega, by omega⟩ ⟨by decide, by decide⟩ dX12_rank_2 (by decide) (fun c1 => ?_) (fun c1 => ?_)
  · skip
    refine pm_iload_n hC 0 dX12_rank_9 rfl ?_
    refine pm_iconst (v := 2) hC dX12_rank_10 ?_
    refine pm_icmp_eq (tgt := 19) hC ⟨by omega, by omega⟩ ⟨by decide, by decide⟩ dX12_rank_11 (by decide) (fun c2 => ?_) (fun c2 => ?_)
    · skip
      refine pm_iconst (v := 1) hC dX12_rank_19 ?_
      refine pm_goto (tgt := 24) hC dX12_rank_20 (by decide) ?_
      exact pm_iret hC hR pm_nar0 ⟨1, rfl, ⟨by omega, by omega⟩, rfl⟩ dX12_rank_24
    · skip
      refine pm_iload_n hC 0 dX12_rank_14 rfl ?_
      refine pm_iconst (v := 3) hC dX12_rank_15 ?_
      refine pm_icmp_ne (tgt := 23) hC ⟨by omega, by omega⟩ ⟨by decide, by decide⟩ dX12_rank_16 (by decide) (fun c3 => ?_) (fun c3 => ?_)
      · skip
        refine pm_iconst (v := 0) hC dX12_rank_23 ?_
        exact pm_iret hC hR pm_nar0 ⟨0, rfl, ⟨by omega, by omega⟩, rfl⟩ dX12_rank_24
      · skip
        refine pm_iconst (v := 1) hC dX12_rank_19 ?_
        refine pm_goto (tgt := 24) hC dX12_rank_20 (by decide) ?_
        exact pm_iret hC hR pm_nar0 ⟨1, rfl, ⟨by omega, by omega⟩, rfl⟩ dX12_rank_24
  · skip
    refine pm_iconst (v := 2) hC dX12_rank_5 ?_
    refine pm_goto (tgt := 24) hC dX12_rank_6 (by decide) ?_
    exact pm_iret hC hR pm_nar0 ⟨2, rfl, ⟨by omega, by omega⟩, rfl⟩ dX12_rank_24
set_option maxHeartbeats 4000000 in
set_option maxRecDepth 100000 in
theorem B_X12_sound (a1 a2 : Int) (h0 : (-2147483648) ≤ a1 ∧ a1 ≤ 2147483647) (h1 : (-2147483648) ≤ a2 ∧ a2 ≤ 2147483647) : pm_K 2 yX12_sound cX12_sound 3 (some .int) (fun av V => av = [(3, 90), (0, a1), (0, a2)] ∧ pm_oq pm_qB V) (fun _ V r V' => ∃ y, r = some (0, y) ∧ ((-1) ≤ y ∧ y ≤ 99) ∧ V = V') := by
  refine pm_MT.of (by decide) ⟨Nat.le_refl _, by decide⟩ (fun av V h => by rw [h.1]; exact (by decide : pm_words [(3, 0), (0, 0), (0, 0)] ≤ 3)) ?_
  rintro X av V0 hC - hR ⟨rfl, hV0⟩
  change pm_J X 0 [(0, (3, 90)), (1, (0, a1)), (2, (0, a2))] [] 118 V0
  refine pm_aload_n hC 0 (by decide) dX12_sound_0 rfl ?_
  have e1 : V0 90 15 = 1 := hV0.one 90 15 (by decide) (by decide) rfl
  refine pm_getf (v := 1) hC 90 fl_X12_216 rfl rfl (by decide) rfl e1 dX12_sound_1 ?_
  refine pm_if_eq (tgt := 43) hC ⟨by decide, by decide⟩ dX12_sound_4 (by decide) (fun c2 => ?_) (fun c2 => ?_)
  · skip
    exfalso; omega
  · skip
    refine pm_iload_n hC 1 dX12_sound_7 rfl ?_
    refine pm_iconst (v := 0) hC dX12_sound_8 ?_
    refine pm_aload_n hC 0 (by decide) dX12_sound_9 rfl ?_
    obtain ⟨y3, e4⟩ : ∃ y, V0 90 16 = y := ⟨_, rfl⟩
    have b5 := hV0.get 90 16 (lo := 2) (hi := 9) (by decide) (by decide) rfl
    rw [e4] at b5
    refine pm_getf (v := y3) hC 90 fl_X12_220 rfl rfl (by decide) rfl e4 dX12_sound_10 ?_
    refine pm_iconst (v := 1) hC dX12_sound_13 ?_
    refine pm_isub hC dX12_sound_14 ?_
    refine pm_callS (as := [(0, a1), (0, 0), (0, (y3 - 1))]) (st := []) hC (B_X12_in a1 0 (y3 - 1) ⟨by omega, by omega⟩ ⟨by decide, by decide⟩ ⟨by omega, by omega⟩) lm_X12_98 ls_X12_in (by decide) (by decide) rfl rfl (Nat.le_of_ble_eq_true rfl) ⟨Nat.le_refl _, Or.inl rfl⟩ dX12_sound_15 ⟨rfl, hV0⟩ (fun r6 V7 hp8 => ?_)
    obtain ⟨y9, rfl, b10, rfl⟩ := hp8
    change pm_J X 18 [(0, (3, 90)), (1, (0, a1)), (2, (0, a2))] [(0, y9)] 118 V0
    refine pm_if_eq (tgt := 43) hC ⟨by omega, by omega⟩ dX12_sound_18 (by decide) (fun c11 => ?_) (fun c11 => ?_)
    · skip
      refine pm_iconst (v := (-1)) hC dX12_sound_43 ?_
      exact pm_iret hC hR pm_nar0 ⟨(-1), rfl, ⟨by omega, by omega⟩, rfl⟩ dX12_sound_44
    · skip
      refine pm_iload_n hC 2 dX12_sound_21 rfl ?_
      refine pm_iconst (v := 0) hC dX12_sound_22 ?_
      refine pm_iconst (v := 2) hC dX12_sound_23 ?_
      refine pm_callS (as := [(0, a2), (0, 0), (0, 2)]) (st := []) hC (B_X12_in a2 0 2 ⟨by omega, by omega⟩ ⟨by decide, by decide⟩ ⟨by decide, by decide⟩) lm_X12_98 ls_X12_in (by decide) (by decide) rfl rfl (Nat.le_of_ble_eq_true rfl) ⟨Nat.le_refl _, Or.inl rfl⟩ dX12_sound_24 ⟨rfl, hV0⟩ (fun r12 V13 hp14 => ?_)
      obtain ⟨y15, rfl, b16, rfl⟩ := hp14
      change pm_J X 27 [(0, (3, 90)), (1, (0, a1)), (2, (0, a2))] [(0, y15)] 118 V0
      refine pm_if_eq (tgt := 43) hC ⟨by omega, by omega⟩ dX12_sound_27 (by decide) (fun c17 => ?_) (fun c17 => ?_)
      · skip
        refine pm_iconst (v := (-1)) hC dX12_sound_43 ?_
        exact pm_iret hC hR pm_nar0 ⟨(-1), rfl, ⟨by omega, by omega⟩, rfl⟩ dX12_sound_44
      · skip
        refine pm_aload_n hC 0 (by decide) dX12_sound_30 rfl ?_
        have e18 : V0 90 17 = 97 := hV0.one 90 17 (by decide) (by decide) rfl
        refine pm_getf (v := 97) hC 90 fl_X12_31 rfl rfl (by decide) rfl e18 dX12_sound_31 ?_
        refine pm_iconst (v := 3) hC dX12_sound_34 ?_
        refine pm_iload_n hC 1 dX12_sound_35 rfl ?_
        refine pm_imul hC dX12_sound_36 ?_
        refine pm_iload_n hC 2 dX12_sound_37 rfl ?_
        refine pm_iadd hC dX12_sound_38 ?_
        obtain ⟨y19, e20⟩ : ∃ y, V0 97 (((3 * a1) + a2) : Int).toNat = y := ⟨_, rfl⟩
        have be22 := hV0 97 (by decide) (by decide) (((3 * a1) + a2) : Int).toNat (show _ < 27 by omega)
        rw [e20] at be22
        have b21 : 0 ≤ y19 ∧ y19 ≤ 99 := pm_qhull be22 rfl rfl (by decide)
        refine pm_iaload (len := 27) (v := y19) hC 97 rfl rfl (by decide) ⟨by omega, by omega⟩ (by decide) e20 dX12_sound_39 ?_
        refine pm_goto (tgt := 44) hC dX12_sound_40 (by decide) ?_
        exact pm_iret hC hR pm_nar0 ⟨y19, rfl, ⟨by omega, by omega⟩, rfl⟩ dX12_sound_44
set_option maxHeartbeats 4000000 in
set_option maxRecDepth 100000 in
theorem B_X12_areChanges (a1 a2 a3 : Int) (h0 : (-2147483648) ≤ a1 ∧ a1 ≤ 2147483647) (h1 : (-2147483648) ≤ a2 ∧ a2 ≤ 2147483647) (h2 : (-2147483648) ≤ a3 ∧ a3 ≤ 2147483647) : pm_K 2 yX12_areChanges cX12_areChanges 3 (some .boolean) (fun av V => av = [(0, a1), (0, a2), (0, a3)] ∧ pm_oq pm_qB V) (fun _ V r V' => ∃ y, r = some (0, y) ∧ (0 ≤ y ∧ y ≤ 1 ∧ (y = 1 → ((-30) ≤ a1 ∧ a1 ≤ 30 ∧ (-30) ≤ a2 ∧ a2 ≤ 30 ∧ 0 ≤ a3 ∧ a3 ≤ 16))) ∧ V = V') := by
  refine pm_MT.of (by decide) ⟨Nat.le_refl _, by decide⟩ (fun av V h => by rw [h.1]; exact (by decide : pm_words [(0, 0), (0, 0), (0, 0)] ≤ 3)) ?_
  rintro X av V0 hC - hR ⟨rfl, hV0⟩
  change pm_J X 0 [(0, (0, a1)), (1, (0, a2)), (2, (0, a3))] [] 118 V0
  refine pm_iload_n hC 0 dX12_areChanges_0 rfl ?_
  refine pm_bipush (v := (-30)) hC dX12_areChanges_1 (by decide) ?_
  refine pm_bipush (v := 30) hC dX12_areChanges_3 (by decide) ?_
  refine pm_callS (as := [(0, a1), (0, (-30)), (0, 30)]) (st := []) hC (B_X12_in a1 (-30) 30 ⟨by omega, by omega⟩ ⟨by decide, by decide⟩ ⟨by decide, by decide⟩) lm_X12_98 ls_X12_in (by decide) (by decide) rfl rfl (Nat.le_of_ble_eq_true rfl) ⟨Nat.le_refl _, Or.inl rfl⟩ dX12_areChanges_5 ⟨rfl, hV0⟩ (fun r1 V2 hp3 => ?_)
  obtain ⟨y4, rfl, b5, rfl⟩ := hp3
  change pm_J X 8 [(0, (0, a1)), (1, (0, a2)), (2, (0, a3))] [(0, y4)] 118 V0
  refine pm_if_eq (tgt := 36) hC ⟨by omega, by omega⟩ dX12_areChanges_8 (by decide) (fun c6 => ?_) (fun c6 => ?_)
  · skip
    refine pm_iconst (v := 0) hC dX12_areChanges_36 ?_
    exact pm_iret hC hR (pm_narZ (by omega)) ⟨0, rfl, ⟨by omega, by omega, by omega⟩, rfl⟩ dX12_areChanges_37
  · skip
    refine pm_iload_n hC 1 dX12_areChanges_11 rfl ?_
    refine pm_bipush (v := (-30)) hC dX12_areChanges_12 (by decide) ?_
    refine pm_bipush (v := 30) hC dX12_areChanges_14 (by decide) ?_
    refine pm_callS (as := [(0, a2), (0, (-30)), (0, 30)]) (st := []) hC (B_X12_in a2 (-30) 30 ⟨by omega, by omega⟩ ⟨by decide, by decide⟩ ⟨by decide, by decide⟩) lm_X12_98 ls_X12_in (by decide) (by decide) rfl rfl (Nat.le_of_ble_eq_true rfl) ⟨Nat.le_refl _, Or.inl rfl⟩ dX12_areChanges_16 ⟨rfl, hV0⟩ (fun r7 V8 hp9 => ?_)
    obtain ⟨y10, rfl, b11, rfl⟩ := hp9
    change pm_J X 19 [(0, (0, a1)), (1, (0, a2)), (2, (0, a3))] [(0, y10)] 118 V0
    refine pm_if_eq (tgt := 36) hC ⟨by omega, by omega⟩ dX12_areChanges_19 (by decide) (fun c12 => ?_) (fun c12 => ?_)
    · skip
      refine pm_iconst (v := 0) hC dX12_areChanges_36 ?_
      exact pm_iret hC hR (pm_narZ (by omega)) ⟨0, rfl, ⟨by omega, by omega, by omega⟩, rfl⟩ dX12_areChanges_37
    · skip
      refine pm_iload_n hC 2 dX12_areChanges_22 rfl ?_
      refine pm_iconst (v := 0) hC dX12_areChanges_23 ?_
      refine pm_bipush (v := 16) hC dX12_areChanges_24 (by decide) ?_
      refine pm_callS (as := [(0, a3), (0, 0), (0, 16)]) (st := []) hC (B_X12_in a3 0 16 ⟨by omega, by omega⟩ ⟨by decide, by decide⟩ ⟨by decide, by decide⟩) lm_X12_98 ls_X12_in (by decide) (by decide) rfl rfl (Nat.le_of_ble_eq_true rfl) ⟨Nat.le_refl _, Or.inl rfl⟩ dX12_areChanges_26 ⟨rfl, hV0⟩ (fun r13 V14 hp15 => ?_)
      obtain ⟨y16, rfl, b17, rfl⟩ := hp15
      change pm_J X 29 [(0, (0, a1)), (1, (0, a2)), (2, (0, a3))] [(0, y16)] 118 V0
      refine pm_if_eq (tgt := 36) hC ⟨by omega, by omega⟩ dX12_areChanges_29 (by decide) (fun c18 => ?_) (fun c18 => ?_)
      · skip
        refine pm_iconst (v := 0) hC dX12_areChanges_36 ?_
        exact pm_iret hC hR (pm_narZ (by omega)) ⟨0, rfl, ⟨by omega, by omega, by omega⟩, rfl⟩ dX12_areChanges_37
      · skip
        refine pm_iconst (v := 1) hC dX12_areChanges_32 ?_
        refine pm_goto (tgt := 37) hC dX12_areChanges_33 (by decide) ?_
        exact pm_iret hC hR (pm_narZ (by omega)) ⟨1, rfl, ⟨by omega, by omega, by omega⟩, rfl⟩ dX12_areChanges_37
set_option maxHeartbeats 4000000 in
set_option maxRecDepth 100000 in
theorem B_X12_person (a1 a2 a3 : Int) (h0 : (-2147483648) ≤ a1 ∧ a1 ≤ 2147483647) (h1 : (-2147483648) ≤ a2 ∧ a2 ≤ 2147483647) (h2 : (-2147483648) ≤ a3 ∧ a3 ≤ 2147483647) : pm_K 3 yX12_person cX12_person 4 (some .int) (fun av V => av = [(3, 90), (0, a1), (0, a2), (0, a3)] ∧ pm_oq pm_qB V) (fun _ V r V' => ∃ y, r = some (0, y) ∧ ((-1) ≤ y ∧ y ≤ 9) ∧ pm_oq pm_qB V' ∧ pm_fs [100] [23] V V') := by
  refine pm_MT.of (by decide) ⟨Nat.le_refl _, by decide⟩ (fun av V h => by rw [h.1]; exact (by decide : pm_words [(3, 0), (0, 0), (0, 0), (0, 0)] ≤ 4)) ?_
  rintro X av V0 hC - hR ⟨rfl, hV0⟩
  change pm_J X 0 [(0, (3, 90)), (1, (0, a1)), (2, (0, a2)), (3, (0, a3))] [] 118 V0
  refine pm_aload_n hC 0 (by decide) dX12_person_0 rfl ?_
  have e1 : V0 90 15 = 1 := hV0.one 90 15 (by decide) (by decide) rfl
  refine pm_getf (v := 1) hC 90 fl_X12_216 rfl rfl (by decide) rfl e1 dX12_person_1 ?_
  refine pm_if_eq (tgt := 40) hC ⟨by decide, by decide⟩ dX12_person_4 (by decide) (fun c2 => ?_) (fun c2 => ?_)
  · skip
    exfalso; omega
  · skip
    refine pm_iload_n hC 3 dX12_person_7 rfl ?_
    refine pm_if_lt (tgt := 40) hC ⟨by omega, by omega⟩ dX12_person_8 (by decide) (fun c3 => ?_) (fun c3 => ?_)
    · skip
      refine pm_iconst (v := (-1)) hC dX12_person_40 ?_
      exact pm_iret hC hR pm_nar0 ⟨(-1), rfl, ⟨by omega, by omega⟩, hV0, (pm_fs.rf (cs := [100]) (fs := [23]) (V := V0))⟩ dX12_person_41
    · skip
      refine pm_iload_n hC 3 dX12_person_11 rfl ?_
      refine pm_bipush (v := 100) hC dX12_person_12 (by decide) ?_
      refine pm_idiv hC ⟨by omega, by omega, by omega⟩ ⟨by decide, by decide, by decide⟩ dX12_person_14 ?_
      refine pm_iconst (v := 3) hC dX12_person_15 ?_
      refine pm_icmp_gt (tgt := 40) hC ⟨by omega, by omega⟩ ⟨by decide, by decide⟩ dX12_person_16 (by decide) (fun c4 => ?_) (fun c4 => ?_)
      · skip
        refine pm_iconst (v := (-1)) hC dX12_person_40 ?_
        exact pm_iret hC hR pm_nar0 ⟨(-1), rfl, ⟨by omega, by omega⟩, hV0, (pm_fs.rf (cs := [100]) (fs := [23]) (V := V0))⟩ dX12_person_41
      · skip
        refine pm_iload_n hC 1 dX12_person_19 rfl ?_
        refine pm_iload_n hC 2 dX12_person_20 rfl ?_
        refine pm_iload_n hC 3 dX12_person_21 rfl ?_
        refine pm_bipush (v := 100) hC dX12_person_22 (by decide) ?_
        refine pm_irem hC ⟨by omega, by omega, by omega⟩ ⟨by decide, by decide, by decide⟩ dX12_person_24 ?_
        refine pm_callS (as := [(0, a1), (0, a2), (0, (a3 % 100))]) (st := []) hC (B_X12_areChanges a1 a2 (a3 % 100) ⟨by omega, by omega⟩ ⟨by omega, by omega⟩ ⟨by omega, by omega⟩) lm_X12_299 ls_X12_areChanges (by decide) (by decide) rfl rfl (Nat.le_of_ble_eq_true rfl) ⟨Nat.le_refl _, Or.inl rfl⟩ dX12_person_25 ⟨rfl, hV0⟩ (fun r5 V6 hp7 => ?_)
        obtain ⟨y8, rfl, b9, rfl⟩ := hp7
        change pm_J X 28 [(0, (3, 90)), (1, (0, a1)), (2, (0, a2)), (3, (0, a3))] [(0, y8)] 118 V0
        refine pm_if_eq (tgt := 40) hC ⟨by omega, by omega⟩ dX12_person_28 (by decide) (fun c10 => ?_) (fun c10 => ?_)
        · skip
          refine pm_iconst (v := (-1)) hC dX12_person_40 ?_
          exact pm_iret hC hR pm_nar0 ⟨(-1), rfl, ⟨by omega, by omega⟩, hV0, (pm_fs.rf (cs := [100]) (fs := [23]) (V := V0))⟩ dX12_person_41
        · skip
          refine pm_aload_n hC 0 (by decide) dX12_person_31 rfl ?_
          obtain ⟨y11, e12⟩ : ∃ y, V0 90 23 = y := ⟨_, rfl⟩
          have b13 := hV0.get 90 23 (lo := 0) (hi := 10) (by decide) (by decide) rfl
          rw [e12] at b13
          refine pm_getf (v := y11) hC 90 fl_X12_232 rfl rfl (by decide) rfl e12 dX12_person_32 ?_
          refine pm_bipush (v := 10) hC dX12_person_35 (by decide) ?_
          refine pm_icmp_ne (tgt := 42) hC ⟨by omega, by omega⟩ ⟨by decide, by decide⟩ dX12_person_37 (by decide) (fun c14 => ?_) (fun c14 => ?_)
          · skip
            refine pm_aload_n hC 0 (by decide) dX12_person_42 rfl ?_
            have e15 : V0 90 24 = 100 := hV0.one 90 24 (by decide) (by decide) rfl
            refine pm_getf (v := 100) hC 90 fl_X12_40 rfl rfl (by decide) rfl e15 dX12_person_43 ?_
            refine pm_iconst (v := 4) hC dX12_person_46 ?_
            refine pm_aload_n hC 0 (by decide) dX12_person_47 rfl ?_
            refine pm_getf (v := y11) hC 90 fl_X12_232 rfl rfl (by decide) rfl e12 dX12_person_48 ?_
            refine pm_imul hC dX12_person_51 ?_
            refine pm_iload_n hC 1 dX12_person_52 rfl ?_
            refine pm_iastore (len := 40) hC 100 rfl rfl (by decide) ⟨by omega, by omega⟩ (by decide) dX12_person_53 ?_
            refine pm_aload_n hC 0 (by decide) dX12_person_54 rfl ?_
            refine pm_getf (v := 100) hC 90 fl_X12_40 rfl rfl (by decide) rfl e15 dX12_person_55 ?_
            refine pm_iconst (v := 4) hC dX12_person_58 ?_
            refine pm_aload_n hC 0 (by decide) dX12_person_59 rfl ?_
            refine pm_getf (v := y11) hC 90 fl_X12_232 rfl rfl (by decide) rfl e12 dX12_person_60 ?_
            refine pm_imul hC dX12_person_63 ?_
            refine pm_iconst (v := 1) hC dX12_person_64 ?_
            refine pm_iadd hC dX12_person_65 ?_
            refine pm_iload_n hC 2 dX12_person_66 rfl ?_
            refine pm_iastore (len := 40) hC 100 rfl rfl (by decide) ⟨by omega, by omega⟩ (by decide) dX12_person_67 ?_
            refine pm_aload_n hC 0 (by decide) dX12_person_68 rfl ?_
            refine pm_getf (v := 100) hC 90 fl_X12_40 rfl rfl (by decide) rfl e15 dX12_person_69 ?_
            refine pm_iconst (v := 4) hC dX12_person_72 ?_
            refine pm_aload_n hC 0 (by decide) dX12_person_73 rfl ?_
            refine pm_getf (v := y11) hC 90 fl_X12_232 rfl rfl (by decide) rfl e12 dX12_person_74 ?_
            refine pm_imul hC dX12_person_77 ?_
            refine pm_iconst (v := 2) hC dX12_person_78 ?_
            refine pm_iadd hC dX12_person_79 ?_
            refine pm_iload_n hC 3 dX12_person_80 rfl ?_
            refine pm_bipush (v := 100) hC dX12_person_81 (by decide) ?_
            refine pm_irem hC ⟨by omega, by omega, by omega⟩ ⟨by decide, by decide, by decide⟩ dX12_person_83 ?_
            refine pm_iastore (len := 40) hC 100 rfl rfl (by decide) ⟨by omega, by omega⟩ (by decide) dX12_person_84 ?_
            refine pm_aload_n hC 0 (by decide) dX12_person_85 rfl ?_
            refine pm_getf (v := 100) hC 90 fl_X12_40 rfl rfl (by decide) rfl e15 dX12_person_86 ?_
            refine pm_iconst (v := 4) hC dX12_person_89 ?_
            refine pm_aload_n hC 0 (by decide) dX12_person_90 rfl ?_
            refine pm_getf (v := y11) hC 90 fl_X12_232 rfl rfl (by decide) rfl e12 dX12_person_91 ?_
            refine pm_imul hC dX12_person_94 ?_
            refine pm_iconst (v := 3) hC dX12_person_95 ?_
            refine pm_iadd hC dX12_person_96 ?_
            refine pm_iload_n hC 3 dX12_person_97 rfl ?_
            refine pm_bipush (v := 100) hC dX12_person_98 (by decide) ?_
            refine pm_idiv hC ⟨by omega, by omega, by omega⟩ ⟨by decide, by decide, by decide⟩ dX12_person_100 ?_
            refine pm_iastore (len := 40) hC 100 rfl rfl (by decide) ⟨by omega, by omega⟩ (by decide) dX12_person_101 ?_
            refine pm_aload_n hC 0 (by decide) dX12_person_102 rfl ?_
            refine pm_dup hC rfl dX12_person_103 ?_
            refine pm_getf (v := y11) hC 90 fl_X12_232 rfl rfl (by decide) rfl e12 dX12_person_104 ?_
            refine pm_iconst (v := 1) hC dX12_person_107 ?_
            refine pm_iadd hC dX12_person_108 ?_
            refine pm_putf hC 90 fl_X12_232 rfl rfl rfl (by decide) rfl trivial dX12_person_109 ?_
            refine pm_aload_n hC 0 (by decide) dX12_person_112 rfl ?_
            refine pm_getf (v := (y11 + 1)) hC 90 fl_X12_232 rfl rfl (by decide) rfl rfl dX12_person_113 ?_
            refine pm_iconst (v := 1) hC dX12_person_116 ?_
            refine pm_isub hC dX12_person_117 ?_
            exact pm_iret hC hR pm_nar0 ⟨((y11 + 1) - 1), rfl, ⟨by omega, by omega⟩, (((((hV0.put 100 ((4 * y11) : Int).toNat (x := a1) (lo := (-30)) (hi := 30) ((pm_qe_r (tb := pm_qB) (k := 100) (i := ((4 * y11) : Int).toNat) (m := 4) (r := 0) (l := [(-30, 30, 0), (-30, 30, 0), (0, 16, 0), (0, 3, 0)]) rfl rfl (by omega)).trans rfl) ⟨by omega, by omega⟩).put 100 (((4 * y11) + 1) : Int).toNat (x := a2) (lo := (-30)) (hi := 30) ((pm_qe_r (tb := pm_qB) (k := 100) (i := (((4 * y11) + 1) : Int).toNat) (m := 4) (r := 1) (l := [(-30, 30, 0), (-30, 30, 0), (0, 16, 0), (0, 3, 0)]) rfl rfl (by omega)).trans rfl) ⟨by omega, by omega⟩).put 100 (((4 * y11) + 2) : Int).toNat (x := (a3 % 100)) (lo := 0) (hi := 16) ((pm_qe_r (tb := pm_qB) (k := 100) (i := (((4 * y11) + 2) : Int).toNat) (m := 4) (r := 2) (l := [(-30, 30, 0), (-30, 30, 0), (0, 16, 0), (0, 3, 0)]) rfl rfl (by omega)).trans rfl) ⟨by omega, by omega⟩).put 100 (((4 * y11) + 3) : Int).toNat (x := (a3 / 100)) (lo := 0) (hi := 3) ((pm_qe_r (tb := pm_qB) (k := 100) (i := (((4 * y11) + 3) : Int).toNat) (m := 4) (r := 3) (l := [(-30, 30, 0), (-30, 30, 0), (0, 16, 0), (0, 3, 0)]) rfl rfl (by omega)).trans rfl) ⟨by omega, by omega⟩).put 90 23 (x := (y11 + 1)) (lo := 0) (hi := 10) rfl ⟨by omega, by omega⟩), ((((((pm_fs.rf (cs := [100]) (fs := [23]) (V := V0)).up 100 ((4 * y11) : Int).toNat a1 (by decide) rfl).up 100 (((4 * y11) + 1) : Int).toNat a2 (by decide) rfl).up 100 (((4 * y11) + 2) : Int).toNat (a3 % 100) (by decide) rfl).up 100 (((4 * y11) + 3) : Int).toNat (a3 / 100) (by decide) rfl).upf 23 (y11 + 1) rfl)⟩ dX12_person_118
          · skip
            refine pm_iconst (v := (-1)) hC dX12_person_40 ?_
            exact pm_iret hC hR pm_nar0 ⟨(-1), rfl, ⟨by omega, by omega⟩, hV0, (pm_fs.rf (cs := [100]) (fs := [23]) (V := V0))⟩ dX12_person_41
set_option maxHeartbeats 4000000 in
set_option maxRecDepth 100000 in
theorem B_X12_isPerson (a1 : Int) (h0 : (-2147483648) ≤ a1 ∧ a1 ≤ 2147483647) : pm_K 2 yX12_isPerson cX12_isPerson 2 (some .boolean) (fun av V => av = [(3, 90), (0, a1)] ∧ pm_oq pm_qB V) (fun _ V r V' => ∃ y, r = some (0, y) ∧ (0 ≤ y ∧ y ≤ 1 ∧ (y = 1 → (0 ≤ a1 ∧ a1 ≤ 9))) ∧ V = V') := by
  refine pm_MT.of (by decide) ⟨Nat.le_refl _, by decide⟩ (fun av V h => by rw [h.1]; exact (by decide : pm_words [(3, 0), (0, 0)] ≤ 2)) ?_
  rintro X av V0 hC - hR ⟨rfl, hV0⟩
  change pm_J X 0 [(0, (3, 90)), (1, (0, a1))] [] 118 V0
  refine pm_aload_n hC 0 (by decide) dX12_isPerson_0 rfl ?_
  have e1 : V0 90 15 = 1 := hV0.one 90 15 (by decide) (by decide) rfl
  refine pm_getf (v := 1) hC 90 fl_X12_216 rfl rfl (by decide) rfl e1 dX12_isPerson_1 ?_
  refine pm_if_eq (tgt := 25) hC ⟨by decide, by decide⟩ dX12_isPerson_4 (by decide) (fun c2 => ?_) (fun c2 => ?_)
  · skip
    exfalso; omega
  · skip
    refine pm_iload_n hC 1 dX12_isPerson_7 rfl ?_
    refine pm_iconst (v := 0) hC dX12_isPerson_8 ?_
    refine pm_aload_n hC 0 (by decide) dX12_isPerson_9 rfl ?_
    obtain ⟨y3, e4⟩ : ∃ y, V0 90 23 = y := ⟨_, rfl⟩
    have b5 := hV0.get 90 23 (lo := 0) (hi := 10) (by decide) (by decide) rfl
    rw [e4] at b5
    refine pm_getf (v := y3) hC 90 fl_X12_232 rfl rfl (by decide) rfl e4 dX12_isPerson_10 ?_
    refine pm_iconst (v := 1) hC dX12_isPerson_13 ?_
    refine pm_isub hC dX12_isPerson_14 ?_
    refine pm_callS (as := [(0, a1), (0, 0), (0, (y3 - 1))]) (st := []) hC (B_X12_in a1 0 (y3 - 1) ⟨by omega, by omega⟩ ⟨by decide, by decide⟩ ⟨by omega, by omega⟩) lm_X12_98 ls_X12_in (by decide) (by decide) rfl rfl (Nat.le_of_ble_eq_true rfl) ⟨Nat.le_refl _, Or.inl rfl⟩ dX12_isPerson_15 ⟨rfl, hV0⟩ (fun r6 V7 hp8 => ?_)
    obtain ⟨y9, rfl, b10, rfl⟩ := hp8
    change pm_J X 18 [(0, (3, 90)), (1, (0, a1))] [(0, y9)] 118 V0
    refine pm_if_eq (tgt := 25) hC ⟨by omega, by omega⟩ dX12_isPerson_18 (by decide) (fun c11 => ?_) (fun c11 => ?_)
    · skip
      refine pm_iconst (v := 0) hC dX12_isPerson_25 ?_
      exact pm_iret hC hR (pm_narZ (by omega)) ⟨0, rfl, ⟨by omega, by omega, by omega⟩, rfl⟩ dX12_isPerson_26
    · skip
      refine pm_iconst (v := 1) hC dX12_isPerson_21 ?_
      refine pm_goto (tgt := 26) hC dX12_isPerson_22 (by decide) ?_
      exact pm_iret hC hR (pm_narZ (by omega)) ⟨1, rfl, ⟨by omega, by omega, by omega⟩, rfl⟩ dX12_isPerson_26
set_option maxHeartbeats 4000000 in
set_option maxRecDepth 100000 in
theorem B_X12_who (a1 a2 : Int) (h0 : (-2147483648) ≤ a1 ∧ a1 ≤ 2147483647) (h1 : (-2147483648) ≤ a2 ∧ a2 ≤ 2147483647) : pm_K 3 yX12_who cX12_who 3 (some .int) (fun av V => av = [(3, 90), (0, a1), (0, a2)] ∧ pm_oq pm_qB V) (fun _ V r V' => ∃ y, r = some (0, y) ∧ ((-2147483648) ≤ y ∧ y ≤ 30) ∧ V = V') := by
  refine pm_MT.of (by decide) ⟨Nat.le_refl _, by decide⟩ (fun av V h => by rw [h.1]; exact (by decide : pm_words [(3, 0), (0, 0), (0, 0)] ≤ 3)) ?_
  rintro X av V0 hC - hR ⟨rfl, hV0⟩
  change pm_J X 0 [(0, (3, 90)), (1, (0, a1)), (2, (0, a2))] [] 118 V0
  refine pm_aload_n hC 0 (by decide) dX12_who_0 rfl ?_
  refine pm_iload_n hC 1 dX12_who_1 rfl ?_
  refine pm_callV (ci := 12) (as := [(0, a1)]) (st := []) hC 90 (B_X12_isPerson a1 ⟨by omega, by omega⟩) lm_X12_302 li_X12_isPerson (by decide) (by decide) rfl rfl rfl (by decide) rfl rfl (Nat.le_of_ble_eq_true rfl) ⟨Nat.le_refl _, Or.inl rfl⟩ dX12_who_2 ⟨rfl, hV0⟩ (fun r1 V2 hp3 => ?_)
  obtain ⟨y4, rfl, b5, rfl⟩ := hp3
  change pm_J X 5 [(0, (3, 90)), (1, (0, a1)), (2, (0, a2))] [(0, y4)] 118 V0
  refine pm_if_eq (tgt := 30) hC ⟨by omega, by omega⟩ dX12_who_5 (by decide) (fun c6 => ?_) (fun c6 => ?_)
  · skip
    refine pm_ldcw (v := (-2147483648)) hC 7000 dX12_who_30 (by decide +kernel) ?_
    exact pm_iret hC hR pm_nar0 ⟨(-2147483648), rfl, ⟨by omega, by omega⟩, rfl⟩ dX12_who_33
  · skip
    refine pm_iload_n hC 2 dX12_who_8 rfl ?_
    refine pm_iconst (v := 0) hC dX12_who_9 ?_
    refine pm_iconst (v := 3) hC dX12_who_10 ?_
    refine pm_callS (as := [(0, a2), (0, 0), (0, 3)]) (st := []) hC (B_X12_in a2 0 3 ⟨by omega, by omega⟩ ⟨by decide, by decide⟩ ⟨by decide, by decide⟩) lm_X12_98 ls_X12_in (by decide) (by decide) rfl rfl (Nat.le_of_ble_eq_true rfl) ⟨Nat.le_refl _, Or.inl rfl⟩ dX12_who_11 ⟨rfl, hV0⟩ (fun r7 V8 hp9 => ?_)
    obtain ⟨y10, rfl, b11, rfl⟩ := hp9
    change pm_J X 14 [(0, (3, 90)), (1, (0, a1)), (2, (0, a2))] [(0, y10)] 118 V0
    refine pm_if_eq (tgt := 30) hC ⟨by omega, by omega⟩ dX12_who_14 (by decide) (fun c12 => ?_) (fun c12 => ?_)
    · skip
      refine pm_ldcw (v := (-2147483648)) hC 7000 dX12_who_30 (by decide +kernel) ?_
      exact pm_iret hC hR pm_nar0 ⟨(-2147483648), rfl, ⟨by omega, by omega⟩, rfl⟩ dX12_who_33
    · skip
      refine pm_aload_n hC 0 (by decide) dX12_who_17 rfl ?_
      have e13 : V0 90 24 = 100 := hV0.one 90 24 (by decide) (by decide) rfl
      refine pm_getf (v := 100) hC 90 fl_X12_40 rfl rfl (by decide) rfl e13 dX12_who_18 ?_
      refine pm_iconst (v := 4) hC dX12_who_21 ?_
      refine pm_iload_n hC 1 dX12_who_22 rfl ?_
      refine pm_imul hC dX12_who_23 ?_
      refine pm_iload_n hC 2 dX12_who_24 rfl ?_
      refine pm_iadd hC dX12_who_25 ?_
      obtain ⟨y14, e15⟩ : ∃ y, V0 100 (((4 * a1) + a2) : Int).toNat = y := ⟨_, rfl⟩
      have be17 := hV0 100 (by decide) (by decide) (((4 * a1) + a2) : Int).toNat (show _ < 40 by omega)
      rw [e15] at be17
      have b16 : (-30) ≤ y14 ∧ y14 ≤ 30 := pm_qhull be17 rfl rfl (by decide)
      refine pm_iaload (len := 40) (v := y14) hC 100 rfl rfl (by decide) ⟨by omega, by omega⟩ (by decide) e15 dX12_who_26 ?_
      refine pm_goto (tgt := 33) hC dX12_who_27 (by decide) ?_
      exact pm_iret hC hR pm_nar0 ⟨y14, rfl, ⟨by omega, by omega⟩, rfl⟩ dX12_who_33
set_option maxHeartbeats 4000000 in
set_option maxRecDepth 100000 in
theorem B_X12_becomes (a1 a2 a3 a4 : Int) (h0 : (-2147483648) ≤ a1 ∧ a1 ≤ 2147483647) (h1 : (-2147483648) ≤ a2 ∧ a2 ≤ 2147483647) (h2 : (-2147483648) ≤ a3 ∧ a3 ≤ 2147483647) (h3 : (-2147483648) ≤ a4 ∧ a4 ≤ 2147483647) : pm_K 3 yX12_becomes cX12_becomes 5 (some .boolean) (fun av V => av = [(3, 90), (0, a1), (0, a2), (0, a3), (0, a4)] ∧ pm_oq pm_qB V) (fun _ V r V' => ∃ y, r = some (0, y) ∧ (0 ≤ y ∧ y ≤ 1) ∧ pm_oq pm_qB V' ∧ pm_fs [100] [] V V') := by
  refine pm_MT.of (by decide) ⟨Nat.le_refl _, by decide⟩ (fun av V h => by rw [h.1]; exact (by decide : pm_words [(3, 0), (0, 0), (0, 0), (0, 0), (0, 0)] ≤ 5)) ?_
  rintro X av V0 hC - hR ⟨rfl, hV0⟩
  change pm_J X 0 [(0, (3, 90)), (1, (0, a1)), (2, (0, a2)), (3, (0, a3)), (4, (0, a4))] [] 118 V0
  refine pm_aload_n hC 0 (by decide) dX12_becomes_0 rfl ?_
  refine pm_iload_n hC 1 dX12_becomes_1 rfl ?_
  refine pm_callV (ci := 12) (as := [(0, a1)]) (st := []) hC 90 (B_X12_isPerson a1 ⟨by omega, by omega⟩) lm_X12_302 li_X12_isPerson (by decide) (by decide) rfl rfl rfl (by decide) rfl rfl (Nat.le_of_ble_eq_true rfl) ⟨Nat.le_refl _, Or.inl rfl⟩ dX12_becomes_2 ⟨rfl, hV0⟩ (fun r1 V2 hp3 => ?_)
  obtain ⟨y4, rfl, b5, rfl⟩ := hp3
  change pm_J X 5 [(0, (3, 90)), (1, (0, a1)), (2, (0, a2)), (3, (0, a3)), (4, (0, a4))] [(0, y4)] 118 V0
  refine pm_if_eq (tgt := 18) hC ⟨by omega, by omega⟩ dX12_becomes_5 (by decide) (fun c6 => ?_) (fun c6 => ?_)
  · skip
    refine pm_iconst (v := 0) hC dX12_becomes_18 ?_
    exact pm_iret hC hR (pm_narZ (by omega)) ⟨0, rfl, ⟨by omega, by omega⟩, hV0, (pm_fs.rf (cs := [100]) (fs := []) (V := V0))⟩ dX12_becomes_19
  · skip
    refine pm_iload_n hC 2 dX12_becomes_8 rfl ?_
    refine pm_iload_n hC 3 dX12_becomes_9 rfl ?_
    refine pm_iload hC 4 dX12_becomes_10 rfl ?_
    refine pm_callS (as := [(0, a2), (0, a3), (0, a4)]) (st := []) hC (B_X12_areChanges a2 a3 a4 ⟨by omega, by omega⟩ ⟨by omega, by omega⟩ ⟨by omega, by omega⟩) lm_X12_299 ls_X12_areChanges (by decide) (by decide) rfl rfl (Nat.le_of_ble_eq_true rfl) ⟨Nat.le_refl _, Or.inl rfl⟩ dX12_becomes_12 ⟨rfl, hV0⟩ (fun r7 V8 hp9 => ?_)
    obtain ⟨y10, rfl, b11, rfl⟩ := hp9
    change pm_J X 15 [(0, (3, 90)), (1, (0, a1)), (2, (0, a2)), (3, (0, a3)), (4, (0, a4))] [(0, y10)] 118 V0
    refine pm_if_ne (tgt := 20) hC ⟨by omega, by omega⟩ dX12_becomes_15 (by decide) (fun c12 => ?_) (fun c12 => ?_)
    · skip
      refine pm_aload_n hC 0 (by decide) dX12_becomes_20 rfl ?_
      have e13 : V0 90 24 = 100 := hV0.one 90 24 (by decide) (by decide) rfl
      refine pm_getf (v := 100) hC 90 fl_X12_40 rfl rfl (by decide) rfl e13 dX12_becomes_21 ?_
      refine pm_iconst (v := 4) hC dX12_becomes_24 ?_
      refine pm_iload_n hC 1 dX12_becomes_25 rfl ?_
      refine pm_imul hC dX12_becomes_26 ?_
      refine pm_iload_n hC 2 dX12_becomes_27 rfl ?_
      refine pm_iastore (len := 40) hC 100 rfl rfl (by decide) ⟨by omega, by omega⟩ (by decide) dX12_becomes_28 ?_
      refine pm_aload_n hC 0 (by decide) dX12_becomes_29 rfl ?_
      refine pm_getf (v := 100) hC 90 fl_X12_40 rfl rfl (by decide) rfl e13 dX12_becomes_30 ?_
      refine pm_iconst (v := 4) hC dX12_becomes_33 ?_
      refine pm_iload_n hC 1 dX12_becomes_34 rfl ?_
      refine pm_imul hC dX12_becomes_35 ?_
      refine pm_iconst (v := 1) hC dX12_becomes_36 ?_
      refine pm_iadd hC dX12_becomes_37 ?_
      refine pm_iload_n hC 3 dX12_becomes_38 rfl ?_
      refine pm_iastore (len := 40) hC 100 rfl rfl (by decide) ⟨by omega, by omega⟩ (by decide) dX12_becomes_39 ?_
      refine pm_aload_n hC 0 (by decide) dX12_becomes_40 rfl ?_
      refine pm_getf (v := 100) hC 90 fl_X12_40 rfl rfl (by decide) rfl e13 dX12_becomes_41 ?_
      refine pm_iconst (v := 4) hC dX12_becomes_44 ?_
      refine pm_iload_n hC 1 dX12_becomes_45 rfl ?_
      refine pm_imul hC dX12_becomes_46 ?_
      refine pm_iconst (v := 2) hC dX12_becomes_47 ?_
      refine pm_iadd hC dX12_becomes_48 ?_
      refine pm_iload hC 4 dX12_becomes_49 rfl ?_
      refine pm_iastore (len := 40) hC 100 rfl rfl (by decide) ⟨by omega, by omega⟩ (by decide) dX12_becomes_51 ?_
      refine pm_iconst (v := 1) hC dX12_becomes_52 ?_
      exact pm_iret hC hR (pm_narZ (by omega)) ⟨1, rfl, ⟨by omega, by omega⟩, (((hV0.put 100 ((4 * a1) : Int).toNat (x := a2) (lo := (-30)) (hi := 30) ((pm_qe_r (tb := pm_qB) (k := 100) (i := ((4 * a1) : Int).toNat) (m := 4) (r := 0) (l := [(-30, 30, 0), (-30, 30, 0), (0, 16, 0), (0, 3, 0)]) rfl rfl (by omega)).trans rfl) ⟨by omega, by omega⟩).put 100 (((4 * a1) + 1) : Int).toNat (x := a3) (lo := (-30)) (hi := 30) ((pm_qe_r (tb := pm_qB) (k := 100) (i := (((4 * a1) + 1) : Int).toNat) (m := 4) (r := 1) (l := [(-30, 30, 0), (-30, 30, 0), (0, 16, 0), (0, 3, 0)]) rfl rfl (by omega)).trans rfl) ⟨by omega, by omega⟩).put 100 (((4 * a1) + 2) : Int).toNat (x := a4) (lo := 0) (hi := 16) ((pm_qe_r (tb := pm_qB) (k := 100) (i := (((4 * a1) + 2) : Int).toNat) (m := 4) (r := 2) (l := [(-30, 30, 0), (-30, 30, 0), (0, 16, 0), (0, 3, 0)]) rfl rfl (by omega)).trans rfl) ⟨by omega, by omega⟩), ((((pm_fs.rf (cs := [100]) (fs := []) (V := V0)).up 100 ((4 * a1) : Int).toNat a2 (by decide) rfl).up 100 (((4 * a1) + 1) : Int).toNat a3 (by decide) rfl).up 100 (((4 * a1) + 2) : Int).toNat a4 (by decide) rfl)⟩ dX12_becomes_53
    · skip
      refine pm_iconst (v := 0) hC dX12_becomes_18 ?_
      exact pm_iret hC hR (pm_narZ (by omega)) ⟨0, rfl, ⟨by omega, by omega⟩, hV0, (pm_fs.rf (cs := [100]) (fs := []) (V := V0))⟩ dX12_becomes_19
set_option maxHeartbeats 4000000 in
set_option maxRecDepth 100000 in
theorem B_X12_isTrial (a1 a2 a3 : Int) (h0 : (-2147483648) ≤ a1 ∧ a1 ≤ 2147483647) (h1 : (-2147483648) ≤ a2 ∧ a2 ≤ 2147483647) (h2 : (-2147483648) ≤ a3 ∧ a3 ≤ 2147483647) : pm_K 2 yX12_isTrial cX12_isTrial 4 (some .boolean) (fun av V => av = [(3, 90), (0, a1), (0, a2), (0, a3)] ∧ pm_oq pm_qB V) (fun _ V r V' => ∃ y, r = some (0, y) ∧ (0 ≤ y ∧ y ≤ 1 ∧ (y = 1 → (0 ≤ a1 ∧ a1 ≤ 999 ∧ 0 ≤ a2 ∧ a2 ≤ 99 ∧ (-99) ≤ a3 ∧ a3 ≤ 99 ∧ a1 % 10 ≤ 8 ∧ a1 / 10 % 10 ≤ 8 ∧ a1 % 10 < V 90 16 ∧ a1 / 10 % 10 < V 90 16))) ∧ V = V') := by
  refine pm_MT.of (by decide) ⟨Nat.le_refl _, by decide⟩ (fun av V h => by rw [h.1]; exact (by decide : pm_words [(3, 0), (0, 0), (0, 0), (0, 0)] ≤ 4)) ?_
  rintro X av V0 hC - hR ⟨rfl, hV0⟩
  change pm_J X 0 [(0, (3, 90)), (1, (0, a1)), (2, (0, a2)), (3, (0, a3))] [] 118 V0
  refine pm_aload_n hC 0 (by decide) dX12_isTrial_0 rfl ?_
  have e1 : V0 90 15 = 1 := hV0.one 90 15 (by decide) (by decide) rfl
  refine pm_getf (v := 1) hC 90 fl_X12_216 rfl rfl (by decide) rfl e1 dX12_isTrial_1 ?_
  refine pm_if_eq (tgt := 72) hC ⟨by decide, by decide⟩ dX12_isTrial_4 (by decide) (fun c2 => ?_) (fun c2 => ?_)
  · skip
    exfalso; omega
  · skip
    refine pm_iload_n hC 1 dX12_isTrial_7 rfl ?_
    refine pm_if_lt (tgt := 72) hC ⟨by omega, by omega⟩ dX12_isTrial_8 (by decide) (fun c3 => ?_) (fun c3 => ?_)
    · skip
      refine pm_iconst (v := 0) hC dX12_isTrial_72 ?_
      exact pm_iret hC hR (pm_narZ (by omega)) ⟨0, rfl, ⟨by omega, by omega, by omega⟩, rfl⟩ dX12_isTrial_73
    · skip
      refine pm_iload_n hC 1 dX12_isTrial_11 rfl ?_
      refine pm_bipush (v := 100) hC dX12_isTrial_12 (by decide) ?_
      refine pm_idiv hC ⟨by omega, by omega, by omega⟩ ⟨by decide, by decide, by decide⟩ dX12_isTrial_14 ?_
      refine pm_aload_n hC 0 (by decide) dX12_isTrial_15 rfl ?_
      obtain ⟨y4, e5⟩ : ∃ y, V0 90 23 = y := ⟨_, rfl⟩
      have b6 := hV0.get 90 23 (lo := 0) (hi := 10) (by decide) (by decide) rfl
      rw [e5] at b6
      refine pm_getf (v := y4) hC 90 fl_X12_232 rfl rfl (by decide) rfl e5 dX12_isTrial_16 ?_
      refine pm_icmp_ge (tgt := 72) hC ⟨by omega, by omega⟩ ⟨by omega, by omega⟩ dX12_isTrial_19 (by decide) (fun c7 => ?_) (fun c7 => ?_)
      · skip
        refine pm_iconst (v := 0) hC dX12_isTrial_72 ?_
        exact pm_iret hC hR (pm_narZ (by omega)) ⟨0, rfl, ⟨by omega, by omega, by omega⟩, rfl⟩ dX12_isTrial_73
      · skip
        refine pm_iload_n hC 1 dX12_isTrial_22 rfl ?_
        refine pm_bipush (v := 10) hC dX12_isTrial_23 (by decide) ?_
        refine pm_idiv hC ⟨by omega, by omega, by omega⟩ ⟨by decide, by decide, by decide⟩ dX12_isTrial_25 ?_
        refine pm_bipush (v := 10) hC dX12_isTrial_26 (by decide) ?_
        refine pm_irem hC ⟨by omega, by omega, by omega⟩ ⟨by decide, by decide, by decide⟩ dX12_isTrial_28 ?_
        refine pm_aload_n hC 0 (by decide) dX12_isTrial_29 rfl ?_
        obtain ⟨y8, e9⟩ : ∃ y, V0 90 16 = y := ⟨_, rfl⟩
        have b10 := hV0.get 90 16 (lo := 2) (hi := 9) (by decide) (by decide) rfl
        rw [e9] at b10
        refine pm_getf (v := y8) hC 90 fl_X12_220 rfl rfl (by decide) rfl e9 dX12_isTrial_30 ?_
        refine pm_icmp_ge (tgt := 72) hC ⟨by omega, by omega⟩ ⟨by omega, by omega⟩ dX12_isTrial_33 (by decide) (fun c11 => ?_) (fun c11 => ?_)
        · skip
          refine pm_iconst (v := 0) hC dX12_isTrial_72 ?_
          exact pm_iret hC hR (pm_narZ (by omega)) ⟨0, rfl, ⟨by omega, by omega, by omega⟩, rfl⟩ dX12_isTrial_73
        · skip
          refine pm_iload_n hC 1 dX12_isTrial_36 rfl ?_
          refine pm_bipush (v := 10) hC dX12_isTrial_37 (by decide) ?_
          refine pm_irem hC ⟨by omega, by omega, by omega⟩ ⟨by decide, by decide, by decide⟩ dX12_isTrial_39 ?_
          refine pm_aload_n hC 0 (by decide) dX12_isTrial_40 rfl ?_
          refine pm_getf (v := y8) hC 90 fl_X12_220 rfl rfl (by decide) rfl e9 dX12_isTrial_41 ?_
          refine pm_icmp_ge (tgt := 72) hC ⟨by omega, by omega⟩ ⟨by omega, by omega⟩ dX12_isTrial_44 (by decide) (fun c12 => ?_) (fun c12 => ?_)
          · skip
            refine pm_iconst (v := 0) hC dX12_isTrial_72 ?_
            exact pm_iret hC hR (pm_narZ (by omega)) ⟨0, rfl, ⟨by omega, by omega, by omega⟩, rfl⟩ dX12_isTrial_73
          · skip
            refine pm_iload_n hC 2 dX12_isTrial_47 rfl ?_
            refine pm_iconst (v := 0) hC dX12_isTrial_48 ?_
            refine pm_bipush (v := 99) hC dX12_isTrial_49 (by decide) ?_
            refine pm_callS (as := [(0, a2), (0, 0), (0, 99)]) (st := []) hC (B_X12_in a2 0 99 ⟨by omega, by omega⟩ ⟨by decide, by decide⟩ ⟨by decide, by decide⟩) lm_X12_98 ls_X12_in (by decide) (by decide) rfl rfl (Nat.le_of_ble_eq_true rfl) ⟨Nat.le_refl _, Or.inl rfl⟩ dX12_isTrial_51 ⟨rfl, hV0⟩ (fun r13 V14 hp15 => ?_)
            obtain ⟨y16, rfl, b17, rfl⟩ := hp15
            change pm_J X 54 [(0, (3, 90)), (1, (0, a1)), (2, (0, a2)), (3, (0, a3))] [(0, y16)] 118 V0
            refine pm_if_eq (tgt := 72) hC ⟨by omega, by omega⟩ dX12_isTrial_54 (by decide) (fun c18 => ?_) (fun c18 => ?_)
            · skip
              refine pm_iconst (v := 0) hC dX12_isTrial_72 ?_
              exact pm_iret hC hR (pm_narZ (by omega)) ⟨0, rfl, ⟨by omega, by omega, by omega⟩, rfl⟩ dX12_isTrial_73
            · skip
              refine pm_iload_n hC 3 dX12_isTrial_57 rfl ?_
              refine pm_bipush (v := (-99)) hC dX12_isTrial_58 (by decide) ?_
              refine pm_bipush (v := 99) hC dX12_isTrial_60 (by decide) ?_
              refine pm_callS (as := [(0, a3), (0, (-99)), (0, 99)]) (st := []) hC (B_X12_in a3 (-99) 99 ⟨by omega, by omega⟩ ⟨by decide, by decide⟩ ⟨by decide, by decide⟩) lm_X12_98 ls_X12_in (by decide) (by decide) rfl rfl (Nat.le_of_ble_eq_true rfl) ⟨Nat.le_refl _, Or.inl rfl⟩ dX12_isTrial_62 ⟨rfl, hV0⟩ (fun r19 V20 hp21 => ?_)
              obtain ⟨y22, rfl, b23, rfl⟩ := hp21
              change pm_J X 65 [(0, (3, 90)), (1, (0, a1)), (2, (0, a2)), (3, (0, a3))] [(0, y22)] 118 V0
              refine pm_if_eq (tgt := 72) hC ⟨by omega, by omega⟩ dX12_isTrial_65 (by decide) (fun c24 => ?_) (fun c24 => ?_)
              · skip
                refine pm_iconst (v := 0) hC dX12_isTrial_72 ?_
                exact pm_iret hC hR (pm_narZ (by omega)) ⟨0, rfl, ⟨by omega, by omega, by omega⟩, rfl⟩ dX12_isTrial_73
              · skip
                refine pm_iconst (v := 1) hC dX12_isTrial_68 ?_
                refine pm_goto (tgt := 73) hC dX12_isTrial_69 (by decide) ?_
                exact pm_iret hC hR (pm_narZ (by omega)) ⟨1, rfl, ⟨by omega, by omega, by omega⟩, rfl⟩ dX12_isTrial_73
set_option maxHeartbeats 4000000 in
set_option maxRecDepth 100000 in
theorem B_X12_isLaw (a1 : Int) (h0 : (-2147483648) ≤ a1 ∧ a1 ≤ 2147483647) : pm_K 2 yX12_isLaw cX12_isLaw 1 (some .boolean) (fun av V => av = [(0, a1)] ∧ pm_oq pm_qB V) (fun _ V r V' => ∃ y, r = some (0, y) ∧ (0 ≤ y ∧ y ≤ 1 ∧ (y = 1 → (0 ≤ a1 ∧ a1 ≤ 6))) ∧ V = V') := by
  refine pm_MT.of (by decide) ⟨Nat.le_refl _, by decide⟩ (fun av V h => by rw [h.1]; exact (by decide : pm_words [(0, 0)] ≤ 1)) ?_
  rintro X av V0 hC - hR ⟨rfl, hV0⟩
  change pm_J X 0 [(0, (0, a1))] [] 118 V0
  refine pm_iload_n hC 0 dX12_isLaw_0 rfl ?_
  refine pm_iconst (v := 0) hC dX12_isLaw_1 ?_
  refine pm_bipush (v := 6) hC dX12_isLaw_2 (by decide) ?_
  refine pm_callS (as := [(0, a1), (0, 0), (0, 6)]) (st := []) hC (B_X12_in a1 0 6 ⟨by omega, by omega⟩ ⟨by decide, by decide⟩ ⟨by decide, by decide⟩) lm_X12_98 ls_X12_in (by decide) (by decide) rfl rfl (Nat.le_of_ble_eq_true rfl) ⟨Nat.le_refl _, Or.inl rfl⟩ dX12_isLaw_4 ⟨rfl, hV0⟩ (fun r1 V2 hp3 => ?_)
  obtain ⟨y4, rfl, b5, rfl⟩ := hp3
  change pm_J X 7 [(0, (0, a1))] [(0, y4)] 118 V0
  exact pm_iret hC hR (pm_narZ (by omega)) ⟨y4, rfl, ⟨by omega, by omega, by omega⟩, rfl⟩ dX12_isLaw_7
set_option maxHeartbeats 4000000 in
set_option maxRecDepth 100000 in
theorem B_X12_x (a1 : Int) (h0 : 0 ≤ a1 ∧ a1 ≤ 8) : pm_K 1 yX12_x cX12_x 2 (some .int) (fun av V => av = [(3, 90), (0, a1)] ∧ pm_oq pm_qB V) (fun _ V r V' => ∃ y, r = some (0, y) ∧ (0 ≤ y ∧ y ≤ 99 ∧ (y = V 97 (3 * a1).toNat)) ∧ V = V') := by
  refine pm_MT.of (by decide) ⟨Nat.le_refl _, by decide⟩ (fun av V h => by rw [h.1]; exact (by decide : pm_words [(3, 0), (0, 0)] ≤ 2)) ?_
  rintro X av V0 hC - hR ⟨rfl, hV0⟩
  change pm_J X 0 [(0, (3, 90)), (1, (0, a1))] [] 118 V0
  refine pm_aload_n hC 0 (by decide) dX12_x_0 rfl ?_
  have e1 : V0 90 17 = 97 := hV0.one 90 17 (by decide) (by decide) rfl
  refine pm_getf (v := 97) hC 90 fl_X12_31 rfl rfl (by decide) rfl e1 dX12_x_1 ?_
  refine pm_iconst (v := 3) hC dX12_x_4 ?_
  refine pm_iload_n hC 1 dX12_x_5 rfl ?_
  refine pm_imul hC dX12_x_6 ?_
  obtain ⟨y2, e3⟩ : ∃ y, V0 97 ((3 * a1) : Int).toNat = y := ⟨_, rfl⟩
  have b4 := hV0.get 97 ((3 * a1) : Int).toNat (lo := 0) (hi := 99) (t := 0) (by decide) (show _ < 27 by omega) ((pm_qe_r (tb := pm_qB) (k := 97) (i := ((3 * a1) : Int).toNat) (m := 3) (r := 0) (l := [(0, 99, 0), (0, 99, 0), (0, 9, 0)]) rfl rfl (by omega)).trans rfl)
  rw [e3] at b4
  refine pm_iaload (len := 27) (v := y2) hC 97 rfl rfl (by decide) ⟨by omega, by omega⟩ (by decide) e3 dX12_x_7 ?_
  exact pm_iret hC hR pm_nar0 ⟨y2, rfl, ⟨by omega, by omega, by omega⟩, rfl⟩ dX12_x_8
set_option maxHeartbeats 4000000 in
set_option maxRecDepth 100000 in
theorem B_X12_y (a1 : Int) (h0 : 0 ≤ a1 ∧ a1 ≤ 8) : pm_K 1 yX12_y cX12_y 2 (some .int) (fun av V => av = [(3, 90), (0, a1)] ∧ pm_oq pm_qB V) (fun _ V r V' => ∃ y, r = some (0, y) ∧ (0 ≤ y ∧ y ≤ 99 ∧ (y = V 97 (3 * a1 + 1).toNat)) ∧ V = V') := by
  refine pm_MT.of (by decide) ⟨Nat.le_refl _, by decide⟩ (fun av V h => by rw [h.1]; exact (by decide : pm_words [(3, 0), (0, 0)] ≤ 2)) ?_
  rintro X av V0 hC - hR ⟨rfl, hV0⟩
  change pm_J X 0 [(0, (3, 90)), (1, (0, a1))] [] 118 V0
  refine pm_aload_n hC 0 (by decide) dX12_y_0 rfl ?_
  have e1 : V0 90 17 = 97 := hV0.one 90 17 (by decide) (by decide) rfl
  refine pm_getf (v := 97) hC 90 fl_X12_31 rfl rfl (by decide) rfl e1 dX12_y_1 ?_
  refine pm_iconst (v := 3) hC dX12_y_4 ?_
  refine pm_iload_n hC 1 dX12_y_5 rfl ?_
  refine pm_imul hC dX12_y_6 ?_
  refine pm_iconst (v := 1) hC dX12_y_7 ?_
  refine pm_iadd hC dX12_y_8 ?_
  obtain ⟨y2, e3⟩ : ∃ y, V0 97 (((3 * a1) + 1) : Int).toNat = y := ⟨_, rfl⟩
  have b4 := hV0.get 97 (((3 * a1) + 1) : Int).toNat (lo := 0) (hi := 99) (t := 0) (by decide) (show _ < 27 by omega) ((pm_qe_r (tb := pm_qB) (k := 97) (i := (((3 * a1) + 1) : Int).toNat) (m := 3) (r := 1) (l := [(0, 99, 0), (0, 99, 0), (0, 9, 0)]) rfl rfl (by omega)).trans rfl)
  rw [e3] at b4
  refine pm_iaload (len := 27) (v := y2) hC 97 rfl rfl (by decide) ⟨by omega, by omega⟩ (by decide) e3 dX12_y_9 ?_
  exact pm_iret hC hR pm_nar0 ⟨y2, rfl, ⟨by omega, by omega, by omega⟩, rfl⟩ dX12_y_10
set_option maxHeartbeats 4000000 in
set_option maxRecDepth 100000 in
theorem B_X12_canBe (a1 a2 a3 : Int) (h0 : (-2147483648) ≤ a1 ∧ a1 ≤ 2147483647) (h1 : (-2147483648) ≤ a2 ∧ a2 ≤ 2147483647) (h2 : (-2147483648) ≤ a3 ∧ a3 ≤ 2147483647) : pm_K 3 yX12_canBe cX12_canBe 4 (some .boolean) (fun av V => av = [(3, 90), (0, a1), (0, a2), (0, a3)] ∧ pm_oq pm_qB V) (fun _ V r V' => ∃ y, r = some (0, y) ∧ (0 ≤ y ∧ y ≤ 1 ∧ (y = 1 → (0 ≤ a1 ∧ a1 ≤ 6 ∧ 0 ≤ a2 ∧ a2 ≤ 9 ∧ 0 ≤ a3 ∧ a3 ≤ 99))) ∧ V = V') := by
  refine pm_MT.of (by decide) ⟨Nat.le_refl _, by decide⟩ (fun av V h => by rw [h.1]; exact (by decide : pm_words [(3, 0), (0, 0), (0, 0), (0, 0)] ≤ 4)) ?_
  rintro X av V0 hC - hR ⟨rfl, hV0⟩
  change pm_J X 0 [(0, (3, 90)), (1, (0, a1)), (2, (0, a2)), (3, (0, a3))] [] 118 V0
  refine pm_iload_n hC 1 dX12_canBe_0 rfl ?_
  refine pm_callS (as := [(0, a1)]) (st := []) hC (B_X12_isLaw a1 ⟨by omega, by omega⟩) lm_X12_370 ls_X12_isLaw (by decide) (by decide) rfl rfl (Nat.le_of_ble_eq_true rfl) ⟨Nat.le_refl _, Or.inl rfl⟩ dX12_canBe_1 ⟨rfl, hV0⟩ (fun r1 V2 hp3 => ?_)
  obtain ⟨y4, rfl, b5, rfl⟩ := hp3
  change pm_J X 4 [(0, (3, 90)), (1, (0, a1)), (2, (0, a2)), (3, (0, a3))] [(0, y4)] 118 V0
  refine pm_if_eq (tgt := 29) hC ⟨by omega, by omega⟩ dX12_canBe_4 (by decide) (fun c6 => ?_) (fun c6 => ?_)
  · skip
    refine pm_iconst (v := 0) hC dX12_canBe_29 ?_
    exact pm_iret hC hR (pm_narZ (by omega)) ⟨0, rfl, ⟨by omega, by omega, by omega⟩, rfl⟩ dX12_canBe_30
  · skip
    refine pm_aload_n hC 0 (by decide) dX12_canBe_7 rfl ?_
    refine pm_iload_n hC 2 dX12_canBe_8 rfl ?_
    refine pm_callV (ci := 12) (as := [(0, a2)]) (st := []) hC 90 (B_X12_isPerson a2 ⟨by omega, by omega⟩) lm_X12_302 li_X12_isPerson (by decide) (by decide) rfl rfl rfl (by decide) rfl rfl (Nat.le_of_ble_eq_true rfl) ⟨Nat.le_refl _, Or.inl rfl⟩ dX12_canBe_9 ⟨rfl, hV0⟩ (fun r7 V8 hp9 => ?_)
    obtain ⟨y10, rfl, b11, rfl⟩ := hp9
    change pm_J X 12 [(0, (3, 90)), (1, (0, a1)), (2, (0, a2)), (3, (0, a3))] [(0, y10)] 118 V0
    refine pm_if_eq (tgt := 29) hC ⟨by omega, by omega⟩ dX12_canBe_12 (by decide) (fun c12 => ?_) (fun c12 => ?_)
    · skip
      refine pm_iconst (v := 0) hC dX12_canBe_29 ?_
      exact pm_iret hC hR (pm_narZ (by omega)) ⟨0, rfl, ⟨by omega, by omega, by omega⟩, rfl⟩ dX12_canBe_30
    · skip
      refine pm_iload_n hC 3 dX12_canBe_15 rfl ?_
      refine pm_iconst (v := 0) hC dX12_canBe_16 ?_
      refine pm_bipush (v := 99) hC dX12_canBe_17 (by decide) ?_
      refine pm_callS (as := [(0, a3), (0, 0), (0, 99)]) (st := []) hC (B_X12_in a3 0 99 ⟨by omega, by omega⟩ ⟨by decide, by decide⟩ ⟨by decide, by decide⟩) lm_X12_98 ls_X12_in (by decide) (by decide) rfl rfl (Nat.le_of_ble_eq_true rfl) ⟨Nat.le_refl _, Or.inl rfl⟩ dX12_canBe_19 ⟨rfl, hV0⟩ (fun r13 V14 hp15 => ?_)
      obtain ⟨y16, rfl, b17, rfl⟩ := hp15
      change pm_J X 22 [(0, (3, 90)), (1, (0, a1)), (2, (0, a2)), (3, (0, a3))] [(0, y16)] 118 V0
      refine pm_if_eq (tgt := 29) hC ⟨by omega, by omega⟩ dX12_canBe_22 (by decide) (fun c18 => ?_) (fun c18 => ?_)
      · skip
        refine pm_iconst (v := 0) hC dX12_canBe_29 ?_
        exact pm_iret hC hR (pm_narZ (by omega)) ⟨0, rfl, ⟨by omega, by omega, by omega⟩, rfl⟩ dX12_canBe_30
      · skip
        refine pm_iconst (v := 1) hC dX12_canBe_25 ?_
        refine pm_goto (tgt := 30) hC dX12_canBe_26 (by decide) ?_
        exact pm_iret hC hR (pm_narZ (by omega)) ⟨1, rfl, ⟨by omega, by omega, by omega⟩, rfl⟩ dX12_canBe_30
set_option maxHeartbeats 4000000 in
set_option maxRecDepth 100000 in
theorem B_X12_areLaws (a1 : Int) (h0 : (-2147483648) ≤ a1 ∧ a1 ≤ 2147483647) : pm_K 3 yX12_areLaws cX12_areLaws 1 (some .boolean) (fun av V => av = [(0, a1)] ∧ pm_oq pm_qB V) (fun _ V r V' => ∃ y, r = some (0, y) ∧ (0 ≤ y ∧ y ≤ 1 ∧ (y = 1 → (0 ≤ a1 ∧ a1 ≤ 69))) ∧ V = V') := by
  refine pm_MT.of (by decide) ⟨Nat.le_refl _, by decide⟩ (fun av V h => by rw [h.1]; exact (by decide : pm_words [(0, 0)] ≤ 1)) ?_
  rintro X av V0 hC - hR ⟨rfl, hV0⟩
  change pm_J X 0 [(0, (0, a1))] [] 118 V0
  refine pm_iload_n hC 0 dX12_areLaws_0 rfl ?_
  refine pm_if_lt (tgt := 28) hC ⟨by omega, by omega⟩ dX12_areLaws_1 (by decide) (fun c1 => ?_) (fun c1 => ?_)
  · skip
    refine pm_iconst (v := 0) hC dX12_areLaws_28 ?_
    exact pm_iret hC hR (pm_narZ (by omega)) ⟨0, rfl, ⟨by omega, by omega, by omega⟩, rfl⟩ dX12_areLaws_29
  · skip
    refine pm_iload_n hC 0 dX12_areLaws_4 rfl ?_
    refine pm_bipush (v := 10) hC dX12_areLaws_5 (by decide) ?_
    refine pm_idiv hC ⟨by omega, by omega, by omega⟩ ⟨by decide, by decide, by decide⟩ dX12_areLaws_7 ?_
    refine pm_callS (as := [(0, (a1 / 10))]) (st := []) hC (B_X12_isLaw (a1 / 10) ⟨by omega, by omega⟩) lm_X12_370 ls_X12_isLaw (by decide) (by decide) rfl rfl (Nat.le_of_ble_eq_true rfl) ⟨Nat.le_refl _, Or.inl rfl⟩ dX12_areLaws_8 ⟨rfl, hV0⟩ (fun r2 V3 hp4 => ?_)
    obtain ⟨y5, rfl, b6, rfl⟩ := hp4
    change pm_J X 11 [(0, (0, a1))] [(0, y5)] 118 V0
    refine pm_if_eq (tgt := 28) hC ⟨by omega, by omega⟩ dX12_areLaws_11 (by decide) (fun c7 => ?_) (fun c7 => ?_)
    · skip
      refine pm_iconst (v := 0) hC dX12_areLaws_28 ?_
      exact pm_iret hC hR (pm_narZ (by omega)) ⟨0, rfl, ⟨by omega, by omega, by omega⟩, rfl⟩ dX12_areLaws_29
    · skip
      refine pm_iload_n hC 0 dX12_areLaws_14 rfl ?_
      refine pm_bipush (v := 10) hC dX12_areLaws_15 (by decide) ?_
      refine pm_irem hC ⟨by omega, by omega, by omega⟩ ⟨by decide, by decide, by decide⟩ dX12_areLaws_17 ?_
      refine pm_callS (as := [(0, (a1 % 10))]) (st := []) hC (B_X12_isLaw (a1 % 10) ⟨by omega, by omega⟩) lm_X12_370 ls_X12_isLaw (by decide) (by decide) rfl rfl (Nat.le_of_ble_eq_true rfl) ⟨Nat.le_refl _, Or.inl rfl⟩ dX12_areLaws_18 ⟨rfl, hV0⟩ (fun r8 V9 hp10 => ?_)
      obtain ⟨y11, rfl, b12, rfl⟩ := hp10
      change pm_J X 21 [(0, (0, a1))] [(0, y11)] 118 V0
      refine pm_if_eq (tgt := 28) hC ⟨by omega, by omega⟩ dX12_areLaws_21 (by decide) (fun c13 => ?_) (fun c13 => ?_)
      · skip
        refine pm_iconst (v := 0) hC dX12_areLaws_28 ?_
        exact pm_iret hC hR (pm_narZ (by omega)) ⟨0, rfl, ⟨by omega, by omega, by omega⟩, rfl⟩ dX12_areLaws_29
      · skip
        refine pm_iconst (v := 1) hC dX12_areLaws_24 ?_
        refine pm_goto (tgt := 29) hC dX12_areLaws_25 (by decide) ?_
        exact pm_iret hC hR (pm_narZ (by omega)) ⟨1, rfl, ⟨by omega, by omega, by omega⟩, rfl⟩ dX12_areLaws_29
set_option maxHeartbeats 4000000 in
set_option maxRecDepth 100000 in
theorem B_X12_kindOf (a1 : Int) (h0 : (-2147483648) ≤ a1 ∧ a1 ≤ 2147483647) : pm_K 1 yX12_kindOf cX12_kindOf 2 (some .int) (fun av V => av = [(3, 90), (0, a1)] ∧ pm_oq pm_qB V) (fun _ V r V' => ∃ y, r = some (0, y) ∧ (0 ≤ y ∧ y ≤ 3) ∧ V = V') := by
  refine pm_MT.of (by decide) ⟨Nat.le_refl _, by decide⟩ (fun av V h => by rw [h.1]; exact (by decide : pm_words [(3, 0), (0, 0)] ≤ 2)) ?_
  rintro X av V0 hC - hR ⟨rfl, hV0⟩
  change pm_J X 0 [(0, (3, 90)), (1, (0, a1))] [] 118 V0
  refine pm_aload_n hC 0 (by decide) dX12_kindOf_0 rfl ?_
  obtain ⟨y1, e2⟩ : ∃ y, V0 90 48 = y := ⟨_, rfl⟩
  have b3 := hV0.get 90 48 (lo := 0) (hi := 8) (by decide) (by decide) rfl
  rw [e2] at b3
  refine pm_getf (v := y1) hC 90 fl_X12_305 rfl rfl (by decide) rfl e2 dX12_kindOf_1 ?_
  refine pm_aload_n hC 0 (by decide) dX12_kindOf_4 rfl ?_
  obtain ⟨y4, e5⟩ : ∃ y, V0 90 49 = y := ⟨_, rfl⟩
  have b6 := hV0.get 90 49 (lo := 0) (hi := 8) (by decide) (by decide) rfl
  rw [e5] at b6
  refine pm_getf (v := y4) hC 90 fl_X12_308 rfl rfl (by decide) rfl e5 dX12_kindOf_5 ?_
  refine pm_icmp_ne (tgt := 27) hC ⟨by omega, by omega⟩ ⟨by omega, by omega⟩ dX12_kindOf_8 (by decide) (fun c7 => ?_) (fun c7 => ?_)
  · skip
    refine pm_iload_n hC 1 dX12_kindOf_27 rfl ?_
    refine pm_aload_n hC 0 (by decide) dX12_kindOf_28 rfl ?_
    refine pm_getf (v := y1) hC 90 fl_X12_305 rfl rfl (by decide) rfl e2 dX12_kindOf_29 ?_
    refine pm_icmp_ne (tgt := 39) hC ⟨by omega, by omega⟩ ⟨by omega, by omega⟩ dX12_kindOf_32 (by decide) (fun c8 => ?_) (fun c8 => ?_)
    · skip
      refine pm_iload_n hC 1 dX12_kindOf_39 rfl ?_
      refine pm_aload_n hC 0 (by decide) dX12_kindOf_40 rfl ?_
      refine pm_getf (v := y4) hC 90 fl_X12_308 rfl rfl (by decide) rfl e5 dX12_kindOf_41 ?_
      refine pm_icmp_ne (tgt := 51) hC ⟨by omega, by omega⟩ ⟨by omega, by omega⟩ dX12_kindOf_44 (by decide) (fun c9 => ?_) (fun c9 => ?_)
      · skip
        refine pm_iconst (v := 3) hC dX12_kindOf_51 ?_
        exact pm_iret hC hR pm_nar0 ⟨3, rfl, ⟨by omega, by omega⟩, rfl⟩ dX12_kindOf_52
      · skip
        refine pm_iconst (v := 2) hC dX12_kindOf_47 ?_
        refine pm_goto (tgt := 52) hC dX12_kindOf_48 (by decide) ?_
        exact pm_iret hC hR pm_nar0 ⟨2, rfl, ⟨by omega, by omega⟩, rfl⟩ dX12_kindOf_52
    · skip
      refine pm_iconst (v := 1) hC dX12_kindOf_35 ?_
      refine pm_goto (tgt := 52) hC dX12_kindOf_36 (by decide) ?_
      exact pm_iret hC hR pm_nar0 ⟨1, rfl, ⟨by omega, by omega⟩, rfl⟩ dX12_kindOf_52
  · skip
    refine pm_iload_n hC 1 dX12_kindOf_11 rfl ?_
    refine pm_aload_n hC 0 (by decide) dX12_kindOf_12 rfl ?_
    refine pm_getf (v := y1) hC 90 fl_X12_305 rfl rfl (by decide) rfl e2 dX12_kindOf_13 ?_
    refine pm_icmp_ne (tgt := 23) hC ⟨by omega, by omega⟩ ⟨by omega, by omega⟩ dX12_kindOf_16 (by decide) (fun c10 => ?_) (fun c10 => ?_)
    · skip
      refine pm_iconst (v := 3) hC dX12_kindOf_23 ?_
      refine pm_goto (tgt := 52) hC dX12_kindOf_24 (by decide) ?_
      exact pm_iret hC hR pm_nar0 ⟨3, rfl, ⟨by omega, by omega⟩, rfl⟩ dX12_kindOf_52
    · skip
      refine pm_iconst (v := 0) hC dX12_kindOf_19 ?_
      refine pm_goto (tgt := 52) hC dX12_kindOf_20 (by decide) ?_
      exact pm_iret hC hR pm_nar0 ⟨0, rfl, ⟨by omega, by omega⟩, rfl⟩ dX12_kindOf_52
set_option maxHeartbeats 4000000 in
set_option maxRecDepth 100000 in
theorem B_X12_likeliest  : pm_K 1 yX12_likeliest cX12_likeliest 3 (some .int) (fun av V => av = [(3, 90)] ∧ pm_oq pm_qB V) (fun _ V r V' => ∃ y, r = some (0, y) ∧ (0 ≤ y ∧ y ≤ 8) ∧ V = V') := by
  refine pm_MT.of (by decide) ⟨Nat.le_refl _, by decide⟩ (fun av V h => by rw [h.1]; exact (by decide : pm_words [(3, 0)] ≤ 3)) ?_
  rintro X av V0 hC - hR ⟨rfl, hV0⟩
  change pm_J X 0 [(0, (3, 90))] [] 118 V0
  refine pm_iconst (v := 0) hC dX12_likeliest_0 ?_
  refine pm_istore_n (lv' := [(1, (0, 0)), (0, (3, 90))]) hC dX12_likeliest_1 (by decide) rfl ?_
  refine pm_iconst (v := 1) hC dX12_likeliest_2 ?_
  refine pm_istore_n (lv' := [(2, (0, 1)), (1, (0, 0)), (0, (3, 90))]) hC dX12_likeliest_3 (by decide) rfl ?_
  have L5 : ∀ (N7 : Nat) (x1 : Int) (x3 : Int), (0 ≤ x1 ∧ x1 ≤ 8) → (1 ≤ x3 ∧ x3 ≤ 9) → (Int.toNat (9 - x3)) = N7 → pm_J X 4 [(0, (3, 90)), (1, (0, x1)), (2, (0, x3))] [] 118 V0 := by
    intro N7
    induction N7 using Nat.strongRecOn with
    | _ N7 ih8 =>
    intro x1 x3 b2 b4 hm6
    refine pm_iload_n hC 2 dX12_likeliest_4 rfl ?_
    refine pm_aload_n hC 0 (by decide) dX12_likeliest_5 rfl ?_
    obtain ⟨y9, e10⟩ : ∃ y, V0 90 16 = y := ⟨_, rfl⟩
    have b11 := hV0.get 90 16 (lo := 2) (hi := 9) (by decide) (by decide) rfl
    rw [e10] at b11
    refine pm_getf (v := y9) hC 90 fl_X12_220 rfl rfl (by decide) rfl e10 dX12_likeliest_6 ?_
    refine pm_icmp_ge (tgt := 36) hC ⟨by omega, by omega⟩ ⟨by omega, by omega⟩ dX12_likeliest_9 (by decide) (fun c12 => ?_) (fun c12 => ?_)
    · skip
      refine pm_iload_n hC 1 dX12_likeliest_36 rfl ?_
      exact pm_iret hC hR pm_nar0 ⟨x1, rfl, ⟨by omega, by omega⟩, rfl⟩ dX12_likeliest_37
    · skip
      refine pm_aload_n hC 0 (by decide) dX12_likeliest_12 rfl ?_
      have e13 : V0 90 50 = 112 := hV0.one 90 50 (by decide) (by decide) rfl
      refine pm_getf (v := 112) hC 90 fl_X12_76 rfl rfl (by decide) rfl e13 dX12_likeliest_13 ?_
      refine pm_iload_n hC 2 dX12_likeliest_16 rfl ?_
      obtain ⟨y14, e15⟩ : ∃ y, V0 112 (x3 : Int).toNat = y := ⟨_, rfl⟩
      have b16 := hV0.get 112 (x3 : Int).toNat (lo := 0) (hi := 80000000) (t := 0) (by decide) (show _ < 9 by omega) rfl
      rw [e15] at b16
      refine pm_laload (len := 9) (v := y14) hC 112 rfl rfl (by decide) ⟨by omega, by omega⟩ (by decide) e15 dX12_likeliest_17 ?_
      refine pm_aload_n hC 0 (by decide) dX12_likeliest_18 rfl ?_
      refine pm_getf (v := 112) hC 90 fl_X12_76 rfl rfl (by decide) rfl e13 dX12_likeliest_19 ?_
      refine pm_iload_n hC 1 dX12_likeliest_22 rfl ?_
      obtain ⟨y17, e18⟩ : ∃ y, V0 112 (x1 : Int).toNat = y := ⟨_, rfl⟩
      have b19 := hV0.get 112 (x1 : Int).toNat (lo := 0) (hi := 80000000) (t := 0) (by decide) (show _ < 9 by omega) rfl
      rw [e18] at b19
      refine pm_laload (len := 9) (v := y17) hC 112 rfl rfl (by decide) ⟨by omega, by omega⟩ (by decide) e18 dX12_likeliest_23 ?_
      refine pm_lcmp hC ⟨by omega, by omega⟩ ⟨by omega, by omega⟩ dX12_likeliest_24 (fun y20 b21 => ?_)
      refine pm_if_le (tgt := 30) hC ⟨by omega, by omega⟩ dX12_likeliest_25 (by decide) (fun c22 => ?_) (fun c22 => ?_)
      · skip
        obtain ⟨x23, ei24⟩ : ∃ y : Int, x3 + 1 = y := ⟨_, rfl⟩
        refine pm_iinc (y := x23) (lv' := [(2, (0, x23)), (0, (3, 90)), (1, (0, x1))]) hC 2 dX12_likeliest_30 (by decide) rfl ei24 rfl ?_
        refine pm_goto (tgt := 4) hC dX12_likeliest_33 (by decide) ?_
        refine pm_lvsub [1, 2, 0] (lv' := [(0, (3, 90)), (1, (0, x1)), (2, (0, x23))]) rfl ?_
        exact ih8 _ (by omega) x1 x23 ⟨by omega, by omega⟩ ⟨by omega, by omega⟩ rfl
      · skip
        refine pm_iload_n hC 2 dX12_likeliest_28 rfl ?_
        refine pm_istore_n (lv' := [(1, (0, x3)), (0, (3, 90)), (2, (0, x3))]) hC dX12_likeliest_29 (by decide) rfl ?_
        obtain ⟨x25, ei26⟩ : ∃ y : Int, x3 + 1 = y := ⟨_, rfl⟩
        refine pm_iinc (y := x25) (lv' := [(2, (0, x25)), (1, (0, x3)), (0, (3, 90))]) hC 2 dX12_likeliest_30 (by decide) rfl ei26 rfl ?_
        refine pm_goto (tgt := 4) hC dX12_likeliest_33 (by decide) ?_
        refine pm_lvsub [2, 1, 0] (lv' := [(0, (3, 90)), (1, (0, x3)), (2, (0, x25))]) rfl ?_
        exact ih8 _ (by omega) x3 x25 ⟨by omega, by omega⟩ ⟨by omega, by omega⟩ rfl
  refine pm_lvsub [2, 1, 0] (lv' := [(0, (3, 90)), (1, (0, 0)), (2, (0, 1))]) rfl ?_
  exact L5 _ 0 1 ⟨by decide, by decide⟩ ⟨by decide, by decide⟩ rfl
set_option maxHeartbeats 4000000 in
set_option maxRecDepth 100000 in
theorem B_X12_noticedNow  : pm_K 1 yX12_noticedNow cX12_noticedNow 5 (some .int) (fun av V => av = [(3, 90)] ∧ pm_oq pm_qB V) (fun _ V r V' => ∃ y, r = some (0, y) ∧ ((-2147483648) ≤ y ∧ y ≤ 2147483647) ∧ V = V') := by
  refine pm_MT.of (by decide) ⟨Nat.le_refl _, by decide⟩ (fun av V h => by rw [h.1]; exact (by decide : pm_words [(3, 0)] ≤ 5)) ?_
  rintro X av V0 hC - hR ⟨rfl, hV0⟩
  change pm_J X 0 [(0, (3, 90))] [] 118 V0
  refine pm_bipush (v := 16) hC dX12_noticedNow_0 (by decide) ?_
  refine pm_aload_n hC 0 (by decide) dX12_noticedNow_2 rfl ?_
  obtain ⟨y1, e2⟩ : ∃ y, V0 90 47 = y := ⟨_, rfl⟩
  have b3 := hV0.get 90 47 (lo := 0) (hi := 16) (by decide) (by decide) rfl
  rw [e2] at b3
  refine pm_getf (v := y1) hC 90 fl_X12_323 rfl rfl (by decide) rfl e2 dX12_noticedNow_3 ?_
  refine pm_isub hC dX12_noticedNow_6 ?_
  refine pm_i2l hC ⟨by omega, by omega⟩ dX12_noticedNow_7 ?_
  refine pm_aload_n hC 0 (by decide) dX12_noticedNow_8 rfl ?_
  obtain ⟨y4, e5⟩ : ∃ y, V0 90 44 = y := ⟨_, rfl⟩
  have b6 := hV0.get 90 44 (lo := 0) (hi := 13851) (by decide) (by decide) rfl
  rw [e5] at b6
  refine pm_getf (v := y4) hC 90 fl_X12_326 rfl rfl (by decide) rfl e5 dX12_noticedNow_9 ?_
  refine pm_lmul hC dX12_noticedNow_12 ?_
  have b8 : 0 ≤ ((16 - y1) * y4) ∧ ((16 - y1) * y4) ≤ 221616 := pm_mulb (by omega) (by omega) (show (16 - y1) ≤ 16 by omega) (show y4 ≤ 13851 by omega) (by decide)
  generalize ((16 - y1) * y4) = y7 at b8 ⊢
  refine pm_aload_n hC 0 (by decide) dX12_noticedNow_13 rfl ?_
  obtain ⟨y9, e10⟩ : ∃ y, V0 90 45 = y := ⟨_, rfl⟩
  have b11 := hV0.get 90 45 (lo := 0) (hi := 1539) (by decide) (by decide) rfl
  rw [e10] at b11
  refine pm_getf (v := y9) hC 90 fl_X12_329 rfl rfl (by decide) rfl e10 dX12_noticedNow_14 ?_
  refine pm_lmul hC dX12_noticedNow_17 ?_
  have b13 : 0 ≤ (y7 * y9) ∧ (y7 * y9) ≤ 341067024 := pm_mulb (by omega) (by omega) (show y7 ≤ 221616 by omega) (show y9 ≤ 1539 by omega) (by decide)
  generalize (y7 * y9) = y12 at b13 ⊢
  refine pm_lstore_n (lv' := [(1, (1, y12)), (0, (3, 90))]) hC dX12_noticedNow_18 (by decide) rfl ?_
  refine pm_aload_n hC 1 (by decide) dX12_noticedNow_19 rfl ?_
  refine pm_getf (v := y1) hC 90 fl_X12_323 rfl rfl (by decide) rfl e2 dX12_noticedNow_20 ?_
  refine pm_aload_n hC 1 (by decide) dX12_noticedNow_23 rfl ?_
  obtain ⟨y14, e15⟩ : ∃ y, V0 90 16 = y := ⟨_, rfl⟩
  have b16 := hV0.get 90 16 (lo := 2) (hi := 9) (by decide) (by decide) rfl
  rw [e15] at b16
  refine pm_getf (v := y14) hC 90 fl_X12_220 rfl rfl (by decide) rfl e15 dX12_noticedNow_24 ?_
  refine pm_imul hC dX12_noticedNow_27 ?_
  have b18 : 0 ≤ (y1 * y14) ∧ (y1 * y14) ≤ 144 := pm_mulb (by omega) (by omega) (show y1 ≤ 16 by omega) (show y14 ≤ 9 by omega) (by decide)
  generalize (y1 * y14) = y17 at b18 ⊢
  refine pm_i2l hC ⟨by omega, by omega⟩ dX12_noticedNow_28 ?_
  refine pm_aload_n hC 1 (by decide) dX12_noticedNow_29 rfl ?_
  obtain ⟨y19, e20⟩ : ∃ y, V0 90 46 = y := ⟨_, rfl⟩
  have b21 := hV0.get 90 46 (lo := 0) (hi := 2368521) (by decide) (by decide) rfl
  rw [e20] at b21
  refine pm_getf (v := y19) hC 90 fl_X12_332 rfl rfl (by decide) rfl e20 dX12_noticedNow_30 ?_
  refine pm_lmul hC dX12_noticedNow_33 ?_
  have b23 : 0 ≤ (y17 * y19) ∧ (y17 * y19) ≤ 341067024 := pm_mulb (by omega) (by omega) (show y17 ≤ 144 by omega) (show y19 ≤ 2368521 by omega) (by decide)
  generalize (y17 * y19) = y22 at b23 ⊢
  refine pm_lstore_n (lv' := [(3, (1, y22)), (1, (1, y12)), (0, (3, 90))]) hC dX12_noticedNow_34 (by decide) rfl ?_
  refine pm_lload_n hC 1 dX12_noticedNow_35 rfl ?_
  refine pm_lload_n hC 0 dX12_noticedNow_36 rfl ?_
  refine pm_ladd hC dX12_noticedNow_37 ?_
  refine pm_lconst (x := 0) hC dX12_noticedNow_38 rfl ?_
  refine pm_lcmp hC ⟨by omega, by omega⟩ ⟨by decide, by decide⟩ dX12_noticedNow_39 (fun y24 b25 => ?_)
  refine pm_if_ne (tgt := 49) hC ⟨by omega, by omega⟩ dX12_noticedNow_40 (by decide) (fun c26 => ?_) (fun c26 => ?_)
  · skip
    refine pm_ldc2 (v := 1000) hC 7092 dX12_noticedNow_49 (by decide +kernel) ?_
    refine pm_lload_n hC 1 dX12_noticedNow_52 rfl ?_
    refine pm_lmul hC dX12_noticedNow_53 ?_
    refine pm_lload_n hC 1 dX12_noticedNow_54 rfl ?_
    refine pm_lload_n hC 0 dX12_noticedNow_55 rfl ?_
    refine pm_ladd hC dX12_noticedNow_56 ?_
    refine pm_ldivT hC ⟨by omega, by omega⟩ ⟨by omega, by omega⟩ (by omega) dX12_noticedNow_57 ?_
    refine pm_someL hC (fun y27 b28 => ?_)
    have b28 := And.intro b28.1 b28.2
    refine pm_l2i hC dX12_noticedNow_58 ?_
    refine pm_some hC (fun y29 b30 => ?_)
    have b30 := And.intro b30.1 b30.2
    exact pm_iret hC hR pm_nar0 ⟨y29, rfl, ⟨by omega, by omega⟩, rfl⟩ dX12_noticedNow_59
  · skip
    refine pm_sipush (v := 1000) hC dX12_noticedNow_43 (by decide) ?_
    refine pm_goto (tgt := 59) hC dX12_noticedNow_46 (by decide) ?_
    exact pm_iret hC hR pm_nar0 ⟨1000, rfl, ⟨by omega, by omega⟩, rfl⟩ dX12_noticedNow_59
set_option maxHeartbeats 4000000 in
set_option maxRecDepth 100000 in
theorem B_X12_undo  : pm_K 1 yX12_undo cX12_undo 1 (some .int) (fun av V => av = [(3, 90)] ∧ pm_oq pm_qB V) (fun _ V r V' => ∃ y, r = some (0, y) ∧ ((-1) ≤ y ∧ y ≤ 59) ∧ pm_oq pm_qB V' ∧ pm_fs [] [25] V V') := by
  refine pm_MT.of (by decide) ⟨Nat.le_refl _, by decide⟩ (fun av V h => by rw [h.1]; exact (by decide : pm_words [(3, 0)] ≤ 1)) ?_
  rintro X av V0 hC - hR ⟨rfl, hV0⟩
  change pm_J X 0 [(0, (3, 90))] [] 118 V0
  refine pm_aload_n hC 0 (by decide) dX12_undo_0 rfl ?_
  obtain ⟨y1, e2⟩ : ∃ y, V0 90 25 = y := ⟨_, rfl⟩
  have b3 := hV0.get 90 25 (lo := 0) (hi := 60) (by decide) (by decide) rfl
  rw [e2] at b3
  refine pm_getf (v := y1) hC 90 fl_X12_235 rfl rfl (by decide) rfl e2 dX12_undo_1 ?_
  refine pm_if_ne (tgt := 9) hC ⟨by omega, by omega⟩ dX12_undo_4 (by decide) (fun c4 => ?_) (fun c4 => ?_)
  · skip
    refine pm_aload_n hC 0 (by decide) dX12_undo_9 rfl ?_
    refine pm_dup hC rfl dX12_undo_10 ?_
    refine pm_getf (v := y1) hC 90 fl_X12_235 rfl rfl (by decide) rfl e2 dX12_undo_11 ?_
    refine pm_iconst (v := 1) hC dX12_undo_14 ?_
    refine pm_isub hC dX12_undo_15 ?_
    refine pm_putf hC 90 fl_X12_235 rfl rfl rfl (by decide) rfl trivial dX12_undo_16 ?_
    refine pm_aload_n hC 0 (by decide) dX12_undo_19 rfl ?_
    refine pm_getf (v := (y1 - 1)) hC 90 fl_X12_235 rfl rfl (by decide) rfl rfl dX12_undo_20 ?_
    exact pm_iret hC hR pm_nar0 ⟨(y1 - 1), rfl, ⟨by omega, by omega⟩, (hV0.put 90 25 (x := (y1 - 1)) (lo := 0) (hi := 60) rfl ⟨by omega, by omega⟩), ((pm_fs.rf (cs := []) (fs := [25]) (V := V0)).upf 25 (y1 - 1) rfl)⟩ dX12_undo_23
  · skip
    refine pm_iconst (v := (-1)) hC dX12_undo_7 ?_
    exact pm_iret hC hR pm_nar0 ⟨(-1), rfl, ⟨by omega, by omega⟩, hV0, (pm_fs.rf (cs := []) (fs := [25]) (V := V0))⟩ dX12_undo_8
set_option maxHeartbeats 4000000 in
set_option maxRecDepth 100000 in
theorem B_X12_isOf (a1 a2 : Int) (h0 : 0 ≤ a1 ∧ a1 ≤ 59) (h1 : (-2147483648) ≤ a2 ∧ a2 ≤ 2147483647) : pm_K 1 yX12_isOf cX12_isOf 3 (some .boolean) (fun av V => av = [(3, 90), (0, a1), (0, a2)] ∧ pm_oq pm_qB V) (fun _ V r V' => ∃ y, r = some (0, y) ∧ (0 ≤ y ∧ y ≤ 1) ∧ V = V') := by
  refine pm_MT.of (by decide) ⟨Nat.le_refl _, by decide⟩ (fun av V h => by rw [h.1]; exact (by decide : pm_words [(3, 0), (0, 0), (0, 0)] ≤ 3)) ?_
  rintro X av V0 hC - hR ⟨rfl, hV0⟩
  change pm_J X 0 [(0, (3, 90)), (1, (0, a1)), (2, (0, a2))] [] 118 V0
  refine pm_iload_n hC 2 dX12_isOf_0 rfl ?_
  refine pm_iconst (v := (-1)) hC dX12_isOf_1 ?_
  refine pm_icmp_eq (tgt := 29) hC ⟨by omega, by omega⟩ ⟨by decide, by decide⟩ dX12_isOf_2 (by decide) (fun c1 => ?_) (fun c1 => ?_)
  · skip
    refine pm_iconst (v := 1) hC dX12_isOf_29 ?_
    refine pm_goto (tgt := 34) hC dX12_isOf_30 (by decide) ?_
    exact pm_iret hC hR (pm_narZ (by omega)) ⟨1, rfl, ⟨by omega, by omega⟩, rfl⟩ dX12_isOf_34
  · skip
    refine pm_aload_n hC 0 (by decide) dX12_isOf_5 rfl ?_
    have e2 : V0 90 24 = 100 := hV0.one 90 24 (by decide) (by decide) rfl
    refine pm_getf (v := 100) hC 90 fl_X12_40 rfl rfl (by decide) rfl e2 dX12_isOf_6 ?_
    refine pm_iconst (v := 4) hC dX12_isOf_9 ?_
    refine pm_aload_n hC 0 (by decide) dX12_isOf_10 rfl ?_
    have e3 : V0 90 26 = 101 := hV0.one 90 26 (by decide) (by decide) rfl
    refine pm_getf (v := 101) hC 90 fl_X12_43 rfl rfl (by decide) rfl e3 dX12_isOf_11 ?_
    refine pm_iconst (v := 5) hC dX12_isOf_14 ?_
    refine pm_iload_n hC 1 dX12_isOf_15 rfl ?_
    refine pm_imul hC dX12_isOf_16 ?_
    obtain ⟨y4, e5⟩ : ∃ y, V0 101 ((5 * a1) : Int).toNat = y := ⟨_, rfl⟩
    have b6 := hV0.get1 101 ((5 * a1) : Int).toNat (lo := 0) (hi := 999) (by decide) (show _ < 300 by omega) ((pm_qe_r (tb := pm_qB) (k := 101) (i := ((5 * a1) : Int).toNat) (m := 5) (r := 0) (l := [(0, 999, 1), (0, 99, 0), (-99, 99, 0), (0, 8, 0), (0, 1, 0)]) rfl rfl (by omega)).trans rfl)
    rw [e5] at b6
    refine pm_iaload (len := 300) (v := y4) hC 101 rfl rfl (by decide) ⟨by omega, by omega⟩ (by decide) e5 dX12_isOf_17 ?_
    refine pm_bipush (v := 100) hC dX12_isOf_18 (by decide) ?_
    refine pm_idiv hC ⟨by omega, by omega, by omega⟩ ⟨by decide, by decide, by decide⟩ dX12_isOf_20 ?_
    refine pm_imul hC dX12_isOf_21 ?_
    refine pm_iconst (v := 3) hC dX12_isOf_22 ?_
    refine pm_iadd hC dX12_isOf_23 ?_
    obtain ⟨y7, e8⟩ : ∃ y, V0 100 (((4 * (y4 / 100)) + 3) : Int).toNat = y := ⟨_, rfl⟩
    have b9 := hV0.get 100 (((4 * (y4 / 100)) + 3) : Int).toNat (lo := 0) (hi := 3) (t := 0) (by decide) (show _ < 40 by omega) ((pm_qe_r (tb := pm_qB) (k := 100) (i := (((4 * (y4 / 100)) + 3) : Int).toNat) (m := 4) (r := 3) (l := [(-30, 30, 0), (-30, 30, 0), (0, 16, 0), (0, 3, 0)]) rfl rfl (by omega)).trans rfl)
    rw [e8] at b9
    refine pm_iaload (len := 40) (v := y7) hC 100 rfl rfl (by decide) ⟨by omega, by omega⟩ (by decide) e8 dX12_isOf_24 ?_
    refine pm_iload_n hC 2 dX12_isOf_25 rfl ?_
    refine pm_icmp_ne (tgt := 33) hC ⟨by omega, by omega⟩ ⟨by omega, by omega⟩ dX12_isOf_26 (by decide) (fun c10 => ?_) (fun c10 => ?_)
    · skip
      refine pm_iconst (v := 0) hC dX12_isOf_33 ?_
      exact pm_iret hC hR (pm_narZ (by omega)) ⟨0, rfl, ⟨by omega, by omega⟩, rfl⟩ dX12_isOf_34
    · skip
      refine pm_iconst (v := 1) hC dX12_isOf_29 ?_
      refine pm_goto (tgt := 34) hC dX12_isOf_30 (by decide) ?_
      exact pm_iret hC hR (pm_narZ (by omega)) ⟨1, rfl, ⟨by omega, by omega⟩, rfl⟩ dX12_isOf_34
set_option maxHeartbeats 4000000 in
set_option maxRecDepth 100000 in
theorem B_X12_compares (a1 a2 : Int) (h0 : 4 ≤ a1 ∧ a1 ≤ 4) (h1 : 5 ≤ a2 ∧ a2 ≤ 5) : pm_K 1 yX12_compares cX12_compares 6 (some .int) (fun av V => av = [(3, 90), (0, a1), (0, a2)] ∧ pm_oq pm_qB V) (fun _ V r V' => ∃ y, r = some (0, y) ∧ ((-1) ≤ y ∧ y ≤ 1) ∧ V = V') := by
  refine pm_MT.of (by decide) ⟨Nat.le_refl _, by decide⟩ (fun av V h => by rw [h.1]; exact (by decide : pm_words [(3, 0), (0, 0), (0, 0)] ≤ 6)) ?_
  rintro X av V0 hC - hR ⟨rfl, hV0⟩
  change pm_J X 0 [(0, (3, 90)), (1, (0, a1)), (2, (0, a2))] [] 118 V0
  refine pm_aload_n hC 0 (by decide) dX12_compares_0 rfl ?_
  have e1 : V0 90 53 = 114 := hV0.one 90 53 (by decide) (by decide) rfl
  refine pm_getf (v := 114) hC 90 fl_X12_82 rfl rfl (by decide) rfl e1 dX12_compares_1 ?_
  refine pm_iload_n hC 1 dX12_compares_4 rfl ?_
  obtain ⟨y2, e3⟩ : ∃ y, V0 114 (a1 : Int).toNat = y := ⟨_, rfl⟩
  have b4 := hV0.get 114 (a1 : Int).toNat (lo := 0) (hi := 600) (t := 0) (by decide) (show _ < 8 by omega) rfl
  rw [e3] at b4
  refine pm_iaload (len := 8) (v := y2) hC 114 rfl rfl (by decide) ⟨by omega, by omega⟩ (by decide) e3 dX12_compares_5 ?_
  refine pm_aload_n hC 0 (by decide) dX12_compares_6 rfl ?_
  refine pm_getf (v := 114) hC 90 fl_X12_82 rfl rfl (by decide) rfl e1 dX12_compares_7 ?_
  refine pm_iload_n hC 2 dX12_compares_10 rfl ?_
  obtain ⟨y5, e6⟩ : ∃ y, V0 114 (a2 : Int).toNat = y := ⟨_, rfl⟩
  have b7 := hV0.get 114 (a2 : Int).toNat (lo := 0) (hi := 600) (t := 0) (by decide) (show _ < 8 by omega) rfl
  rw [e6] at b7
  refine pm_iaload (len := 8) (v := y5) hC 114 rfl rfl (by decide) ⟨by omega, by omega⟩ (by decide) e6 dX12_compares_11 ?_
  refine pm_icmp_eq (tgt := 36) hC ⟨by omega, by omega⟩ ⟨by omega, by omega⟩ dX12_compares_12 (by decide) (fun c8 => ?_) (fun c8 => ?_)
  · skip
    refine pm_aload_n hC 0 (by decide) dX12_compares_36 rfl ?_
    refine pm_getf (v := 114) hC 90 fl_X12_82 rfl rfl (by decide) rfl e1 dX12_compares_37 ?_
    refine pm_iload_n hC 1 dX12_compares_40 rfl ?_
    refine pm_iaload (len := 8) (v := y2) hC 114 rfl rfl (by decide) ⟨by omega, by omega⟩ (by decide) e3 dX12_compares_41 ?_
    refine pm_iconst (v := 1) hC dX12_compares_42 ?_
    refine pm_isub hC dX12_compares_43 ?_
    refine pm_istore_n (lv' := [(3, (0, (y2 - 1))), (0, (3, 90)), (1, (0, a1)), (2, (0, a2))]) hC dX12_compares_44 (by decide) rfl ?_
    have L11 : ∀ (N13 : Nat) (x9 : Int), ((-1) ≤ x9 ∧ x9 ≤ 599) → (Int.toNat (x9 - (-1))) = N13 → pm_J X 45 [(0, (3, 90)), (1, (0, a1)), (2, (0, a2)), (3, (0, x9))] [] 118 V0 := by
      intro N13
      induction N13 using Nat.strongRecOn with
      | _ N13 ih14 =>
      intro x9 b10 hm12
      refine pm_iload_n hC 3 dX12_compares_45 rfl ?_
      refine pm_if_lt (tgt := 103) hC ⟨by omega, by omega⟩ dX12_compares_46 (by decide) (fun c15 => ?_) (fun c15 => ?_)
      · skip
        refine pm_iconst (v := 0) hC dX12_compares_103 ?_
        exact pm_iret hC hR pm_nar0 ⟨0, rfl, ⟨by omega, by omega⟩, rfl⟩ dX12_compares_104
      · skip
        refine pm_aload_n hC 0 (by decide) dX12_compares_49 rfl ?_
        have e16 : V0 90 52 = 113 := hV0.one 90 52 (by decide) (by decide) rfl
        refine pm_getf (v := 113) hC 90 fl_X12_79 rfl rfl (by decide) rfl e16 dX12_compares_50 ?_
        refine pm_iload_n hC 1 dX12_compares_53 rfl ?_
        refine pm_sipush (v := 300) hC dX12_compares_54 (by decide) ?_
        refine pm_imul hC dX12_compares_57 ?_
        refine pm_iload_n hC 3 dX12_compares_58 rfl ?_
        refine pm_iadd hC dX12_compares_59 ?_
        obtain ⟨y17, e18⟩ : ∃ y, V0 113 (((a1 * 300) + x9) : Int).toNat = y := ⟨_, rfl⟩
        have b19 := hV0.get 113 (((a1 * 300) + x9) : Int).toNat (lo := 0) (hi := 9999) (t := 0) (by decide) (show _ < 2400 by omega) rfl
        rw [e18] at b19
        refine pm_iaload (len := 2400) (v := y17) hC 113 rfl rfl (by decide) ⟨by omega, by omega⟩ (by decide) e18 dX12_compares_60 ?_
        refine pm_istore (lv' := [(4, (0, y17)), (0, (3, 90)), (1, (0, a1)), (2, (0, a2)), (3, (0, x9))]) hC dX12_compares_61 (by decide) rfl ?_
        refine pm_aload_n hC 1 (by decide) dX12_compares_63 rfl ?_
        refine pm_getf (v := 113) hC 90 fl_X12_79 rfl rfl (by decide) rfl e16 dX12_compares_64 ?_
        refine pm_iload_n hC 3 dX12_compares_67 rfl ?_
        refine pm_sipush (v := 300) hC dX12_compares_68 (by decide) ?_
        refine pm_imul hC dX12_compares_71 ?_
        refine pm_iload_n hC 4 dX12_compares_72 rfl ?_
        refine pm_iadd hC dX12_compares_73 ?_
        obtain ⟨y20, e21⟩ : ∃ y, V0 113 (((a2 * 300) + x9) : Int).toNat = y := ⟨_, rfl⟩
        have b22 := hV0.get 113 (((a2 * 300) + x9) : Int).toNat (lo := 0) (hi := 9999) (t := 0) (by decide) (show _ < 2400 by omega) rfl
        rw [e21] at b22
        refine pm_iaload (len := 2400) (v := y20) hC 113 rfl rfl (by decide) ⟨by omega, by omega⟩ (by decide) e21 dX12_compares_74 ?_
        refine pm_istore (lv' := [(5, (0, y20)), (4, (0, y17)), (0, (3, 90)), (1, (0, a1)), (2, (0, a2)), (3, (0, x9))]) hC dX12_compares_75 (by decide) rfl ?_
        refine pm_iload hC 1 dX12_compares_77 rfl ?_
        refine pm_iload hC 0 dX12_compares_79 rfl ?_
        refine pm_icmp_eq (tgt := 97) hC ⟨by omega, by omega⟩ ⟨by omega, by omega⟩ dX12_compares_81 (by decide) (fun c23 => ?_) (fun c23 => ?_)
        · skip
          obtain ⟨x24, ei25⟩ : ∃ y : Int, x9 + (-1) = y := ⟨_, rfl⟩
          refine pm_iinc (y := x24) (lv' := [(3, (0, x24)), (5, (0, y20)), (4, (0, y17)), (0, (3, 90)), (1, (0, a1)), (2, (0, a2))]) hC 5 dX12_compares_97 (by decide) rfl ei25 rfl ?_
          refine pm_goto (tgt := 45) hC dX12_compares_100 (by decide) ?_
          refine pm_lvsub [3, 4, 5, 0] (lv' := [(0, (3, 90)), (1, (0, a1)), (2, (0, a2)), (3, (0, x24))]) rfl ?_
          exact ih14 _ (by omega) x24 ⟨by omega, by omega⟩ rfl
        · skip
          refine pm_iload hC 1 dX12_compares_84 rfl ?_
          refine pm_iload hC 0 dX12_compares_86 rfl ?_
          refine pm_icmp_ge (tgt := 95) hC ⟨by omega, by omega⟩ ⟨by omega, by omega⟩ dX12_compares_88 (by decide) (fun c26 => ?_) (fun c26 => ?_)
          · skip
            refine pm_iconst (v := 1) hC dX12_compares_95 ?_
            exact pm_iret hC hR pm_nar0 ⟨1, rfl, ⟨by omega, by omega⟩, rfl⟩ dX12_compares_96
          · skip
            refine pm_iconst (v := (-1)) hC dX12_compares_91 ?_
            refine pm_goto (tgt := 96) hC dX12_compares_92 (by decide) ?_
            exact pm_iret hC hR pm_nar0 ⟨(-1), rfl, ⟨by omega, by omega⟩, rfl⟩ dX12_compares_96
    refine pm_lvsub [1, 2, 3, 0] (lv' := [(0, (3, 90)), (1, (0, a1)), (2, (0, a2)), (3, (0, (y2 - 1)))]) rfl ?_
    exact L11 _ (y2 - 1) ⟨by omega, by omega⟩ rfl
  · skip
    refine pm_aload_n hC 0 (by decide) dX12_compares_15 rfl ?_
    refine pm_getf (v := 114) hC 90 fl_X12_82 rfl rfl (by decide) rfl e1 dX12_compares_16 ?_
    refine pm_iload_n hC 1 dX12_compares_19 rfl ?_
    refine pm_iaload (len := 8) (v := y2) hC 114 rfl rfl (by decide) ⟨by omega, by omega⟩ (by decide) e3 dX12_compares_20 ?_
    refine pm_aload_n hC 0 (by decide) dX12_compares_21 rfl ?_
    refine pm_getf (v := 114) hC 90 fl_X12_82 rfl rfl (by decide) rfl e1 dX12_compares_22 ?_
    refine pm_iload_n hC 2 dX12_compares_25 rfl ?_
    refine pm_iaload (len := 8) (v := y5) hC 114 rfl rfl (by decide) ⟨by omega, by omega⟩ (by decide) e6 dX12_compares_26 ?_
    refine pm_icmp_ge (tgt := 34) hC ⟨by omega, by omega⟩ ⟨by omega, by omega⟩ dX12_compares_27 (by decide) (fun c27 => ?_) (fun c27 => ?_)
    · skip
      refine pm_iconst (v := 1) hC dX12_compares_34 ?_
      exact pm_iret hC hR pm_nar0 ⟨1, rfl, ⟨by omega, by omega⟩, rfl⟩ dX12_compares_35
    · skip
      refine pm_iconst (v := (-1)) hC dX12_compares_30 ?_
      refine pm_goto (tgt := 35) hC dX12_compares_31 (by decide) ?_
      exact pm_iret hC hR pm_nar0 ⟨(-1), rfl, ⟨by omega, by omega⟩, rfl⟩ dX12_compares_35
set_option maxHeartbeats 4000000 in
set_option maxRecDepth 100000 in
theorem B_X12_copies (a1 a2 : Int) (h0 : 0 ≤ a1 ∧ a1 ≤ 1) (h1 : 2 ≤ a2 ∧ a2 ≤ 3) : pm_K 1 yX12_copies cX12_copies 4 none (fun av V => av = [(3, 90), (0, a1), (0, a2)] ∧ pm_oq pm_qB V) (fun _ V r V' => r = none ∧ pm_oq pm_qB V' ∧ pm_fs [113, 114] [] V V') := by
  refine pm_MT.of (by decide) ⟨Nat.le_refl _, by decide⟩ (fun av V h => by rw [h.1]; exact (by decide : pm_words [(3, 0), (0, 0), (0, 0)] ≤ 4)) ?_
  rintro X av V0 hC - hR ⟨rfl, hV0⟩
  change pm_J X 0 [(0, (3, 90)), (1, (0, a1)), (2, (0, a2))] [] 118 V0
  refine pm_aload_n hC 0 (by decide) dX12_copies_0 rfl ?_
  have e1 : V0 90 53 = 114 := hV0.one 90 53 (by decide) (by decide) rfl
  refine pm_getf (v := 114) hC 90 fl_X12_82 rfl rfl (by decide) rfl e1 dX12_copies_1 ?_
  refine pm_iload_n hC 2 dX12_copies_4 rfl ?_
  refine pm_aload_n hC 0 (by decide) dX12_copies_5 rfl ?_
  refine pm_getf (v := 114) hC 90 fl_X12_82 rfl rfl (by decide) rfl e1 dX12_copies_6 ?_
  refine pm_iload_n hC 1 dX12_copies_9 rfl ?_
  obtain ⟨y2, e3⟩ : ∃ y, V0 114 (a1 : Int).toNat = y := ⟨_, rfl⟩
  have b4 := hV0.get 114 (a1 : Int).toNat (lo := 0) (hi := 600) (t := 0) (by decide) (show _ < 8 by omega) rfl
  rw [e3] at b4
  refine pm_iaload (len := 8) (v := y2) hC 114 rfl rfl (by decide) ⟨by omega, by omega⟩ (by decide) e3 dX12_copies_10 ?_
  refine pm_iastore (len := 8) hC 114 rfl rfl (by decide) ⟨by omega, by omega⟩ (by decide) dX12_copies_11 ?_
  refine pm_iconst (v := 0) hC dX12_copies_12 ?_
  refine pm_istore_n (lv' := [(3, (0, 0)), (0, (3, 90)), (1, (0, a1)), (2, (0, a2))]) hC dX12_copies_13 (by decide) rfl ?_
  have hV7 := (hV0.put 114 (a2 : Int).toNat (x := y2) (lo := 0) (hi := 600) rfl ⟨by omega, by omega⟩)
  have hF8 := ((pm_fs.rf (cs := [113, 114]) (fs := []) (V := V0)).up 114 (a2 : Int).toNat y2 (by decide) rfl)
  obtain ⟨V5, hv6⟩ : ∃ V, V = (pm_up V0 114 (a2 : Int).toNat y2) := ⟨_, rfl⟩
  rw [← hv6] at hV7 hF8
  rw [← hv6]
  have e9 : V5 90 53 = 114 := by rw [hv6]; exact e1
  have L16 : ∀ (N18 : Nat) (x10 : Int) (V12 : pm_M), (0 ≤ x10 ∧ x10 ≤ 1000) → pm_oq pm_qB V12 → pm_fs [113, 114] [] V0 V12 → V12 90 53 = 114 → (Int.toNat (1000 - x10)) = N18 → pm_J X 14 [(0, (3, 90)), (1, (0, a1)), (2, (0, a2)), (3, (0, x10))] [] 118 V12 := by
    intro N18
    induction N18 using Nat.strongRecOn with
    | _ N18 ih19 =>
    intro x10 V12 b11 hV13 hF14 e15 hm17
    refine pm_iload_n hC 3 dX12_copies_14 rfl ?_
    refine pm_aload_n hC 0 (by decide) dX12_copies_15 rfl ?_
    refine pm_getf (v := 114) hC 90 fl_X12_82 rfl rfl (by decide) rfl e15 dX12_copies_16 ?_
    refine pm_iload_n hC 1 dX12_copies_19 rfl ?_
    obtain ⟨y20, e21⟩ : ∃ y, V12 114 (a1 : Int).toNat = y := ⟨_, rfl⟩
    have b22 := hV13.get 114 (a1 : Int).toNat (lo := 0) (hi := 600) (t := 0) (by decide) (show _ < 8 by omega) rfl
    rw [e21] at b22
    refine pm_iaload (len := 8) (v := y20) hC 114 rfl rfl (by decide) ⟨by omega, by omega⟩ (by decide) e21 dX12_copies_20 ?_
    refine pm_icmp_ge (tgt := 54) hC ⟨by omega, by omega⟩ ⟨by omega, by omega⟩ dX12_copies_21 (by decide) (fun c23 => ?_) (fun c23 => ?_)
    · skip
      exact pm_vret hC hR ⟨rfl, hV13, hF14⟩ dX12_copies_54
    · skip
      refine pm_aload_n hC 0 (by decide) dX12_copies_24 rfl ?_
      have e24 : V12 90 52 = 113 := hV13.one 90 52 (by decide) (by decide) rfl
      refine pm_getf (v := 113) hC 90 fl_X12_79 rfl rfl (by decide) rfl e24 dX12_copies_25 ?_
      refine pm_iload_n hC 2 dX12_copies_28 rfl ?_
      refine pm_sipush (v := 300) hC dX12_copies_29 (by decide) ?_
      refine pm_imul hC dX12_copies_32 ?_
      refine pm_iload_n hC 3 dX12_copies_33 rfl ?_
      refine pm_iadd hC dX12_copies_34 ?_
      refine pm_aload_n hC 0 (by decide) dX12_copies_35 rfl ?_
      refine pm_getf (v := 113) hC 90 fl_X12_79 rfl rfl (by decide) rfl e24 dX12_copies_36 ?_
      refine pm_iload_n hC 1 dX12_copies_39 rfl ?_
      refine pm_sipush (v := 300) hC dX12_copies_40 (by decide) ?_
      refine pm_imul hC dX12_copies_43 ?_
      refine pm_iload_n hC 3 dX12_copies_44 rfl ?_
      refine pm_iadd hC dX12_copies_45 ?_
      obtain ⟨y25, e26⟩ : ∃ y, V12 113 (((a1 * 300) + x10) : Int).toNat = y := ⟨_, rfl⟩
      have b27 := hV13.get 113 (((a1 * 300) + x10) : Int).toNat (lo := 0) (hi := 9999) (t := 0) (by decide) (show _ < 2400 by omega) rfl
      rw [e26] at b27
      refine pm_iaload (len := 2400) (v := y25) hC 113 rfl rfl (by decide) ⟨by omega, by omega⟩ (by decide) e26 dX12_copies_46 ?_
      refine pm_iastore (len := 2400) hC 113 rfl rfl (by decide) ⟨by omega, by omega⟩ (by decide) dX12_copies_47 ?_
      obtain ⟨x28, ei29⟩ : ∃ y : Int, x10 + 1 = y := ⟨_, rfl⟩
      refine pm_iinc (y := x28) (lv' := [(3, (0, x28)), (0, (3, 90)), (1, (0, a1)), (2, (0, a2))]) hC 3 dX12_copies_48 (by decide) rfl ei29 rfl ?_
      refine pm_goto (tgt := 14) hC dX12_copies_51 (by decide) ?_
      refine pm_lvsub [1, 2, 3, 0] (lv' := [(0, (3, 90)), (1, (0, a1)), (2, (0, a2)), (3, (0, x28))]) rfl ?_
      exact ih19 _ (by omega) x28 (pm_up V12 113 (((a2 * 300) + x10) : Int).toNat y25) ⟨by omega, by omega⟩ (hV13.put 113 (((a2 * 300) + x10) : Int).toNat (x := y25) (lo := 0) (hi := 9999) rfl ⟨by omega, by omega⟩) (hF14.up 113 (((a2 * 300) + x10) : Int).toNat y25 (by decide) rfl) e15 rfl
  refine pm_lvsub [1, 2, 3, 0] (lv' := [(0, (3, 90)), (1, (0, a1)), (2, (0, a2)), (3, (0, 0))]) rfl ?_
  exact L16 _ 0 V5 ⟨by decide, by decide⟩ hV7 hF8 e9 rfl
set_option maxHeartbeats 4000000 in
set_option maxRecDepth 100000 in
theorem B_X12_keeps  : pm_K 2 yX12_keeps cX12_keeps 1 none (fun av V => av = [(3, 90)] ∧ pm_oq pm_qB V) (fun _ V r V' => r = none ∧ pm_oq pm_qB V' ∧ pm_fs [113, 114] [] V V') := by
  refine pm_MT.of (by decide) ⟨Nat.le_refl _, by decide⟩ (fun av V h => by rw [h.1]; exact (by decide : pm_words [(3, 0)] ≤ 1)) ?_
  rintro X av V0 hC - hR ⟨rfl, hV0⟩
  change pm_J X 0 [(0, (3, 90))] [] 118 V0
  refine pm_aload_n hC 0 (by decide) dX12_keeps_0 rfl ?_
  refine pm_iconst (v := 0) hC dX12_keeps_1 ?_
  refine pm_iconst (v := 2) hC dX12_keeps_2 ?_
  refine pm_callV (ci := 12) (as := [(0, 0), (0, 2)]) (st := []) hC 90 (B_X12_copies 0 2 ⟨by decide, by decide⟩ ⟨by decide, by decide⟩) lm_X12_421 li_X12_copies (by decide) (by decide) rfl rfl rfl (by decide) rfl rfl (Nat.le_of_ble_eq_true rfl) ⟨Nat.le_refl _, Or.inl rfl⟩ dX12_keeps_3 ⟨rfl, hV0⟩ (fun r1 V2 hp3 => ?_)
  obtain ⟨rfl, hV4, hF5⟩ := hp3
  change pm_J X 6 [(0, (3, 90))] [] 118 V2
  have hF6 := pm_fs.tr (pm_fs.rf (cs := [113, 114]) (fs := []) (V := V0)) hF5 (by decide) (by decide)
  refine pm_aload_n hC 0 (by decide) dX12_keeps_6 rfl ?_
  refine pm_iconst (v := 1) hC dX12_keeps_7 ?_
  refine pm_iconst (v := 3) hC dX12_keeps_8 ?_
  refine pm_callV (ci := 12) (as := [(0, 1), (0, 3)]) (st := []) hC 90 (B_X12_copies 1 3 ⟨by decide, by decide⟩ ⟨by decide, by decide⟩) lm_X12_421 li_X12_copies (by decide) (by decide) rfl rfl rfl (by decide) rfl rfl (Nat.le_of_ble_eq_true rfl) ⟨Nat.le_refl _, Or.inl rfl⟩ dX12_keeps_9 ⟨rfl, hV4⟩ (fun r7 V8 hp9 => ?_)
  obtain ⟨rfl, hV10, hF11⟩ := hp9
  change pm_J X 12 [(0, (3, 90))] [] 118 V8
  have hF12 := pm_fs.tr hF6 hF11 (by decide) (by decide)
  exact pm_vret hC hR ⟨rfl, hV10, hF12⟩ dX12_keeps_12
set_option maxHeartbeats 4000000 in
set_option maxRecDepth 100000 in
theorem B_X12_ones (a1 : Int) (h0 : 0 ≤ a1 ∧ a1 ≤ 1) : pm_K 1 yX12_ones cX12_ones 2 none (fun av V => av = [(3, 90), (0, a1)] ∧ pm_oq pm_qB V) (fun _ V r V' => r = none ∧ pm_oq pm_qB V' ∧ pm_fs [113, 114] [] V V') := by
  refine pm_MT.of (by decide) ⟨Nat.le_refl _, by decide⟩ (fun av V h => by rw [h.1]; exact (by decide : pm_words [(3, 0), (0, 0)] ≤ 2)) ?_
  rintro X av V0 hC - hR ⟨rfl, hV0⟩
  change pm_J X 0 [(0, (3, 90)), (1, (0, a1))] [] 118 V0
  refine pm_aload_n hC 0 (by decide) dX12_ones_0 rfl ?_
  have e1 : V0 90 53 = 114 := hV0.one 90 53 (by decide) (by decide) rfl
  refine pm_getf (v := 114) hC 90 fl_X12_82 rfl rfl (by decide) rfl e1 dX12_ones_1 ?_
  refine pm_iload_n hC 1 dX12_ones_4 rfl ?_
  refine pm_iconst (v := 1) hC dX12_ones_5 ?_
  refine pm_iastore (len := 8) hC 114 rfl rfl (by decide) ⟨by omega, by omega⟩ (by decide) dX12_ones_6 ?_
  refine pm_aload_n hC 0 (by decide) dX12_ones_7 rfl ?_
  have e2 : V0 90 52 = 113 := hV0.one 90 52 (by decide) (by decide) rfl
  refine pm_getf (v := 113) hC 90 fl_X12_79 rfl rfl (by decide) rfl e2 dX12_ones_8 ?_
  refine pm_iload_n hC 1 dX12_ones_11 rfl ?_
  refine pm_sipush (v := 300) hC dX12_ones_12 (by decide) ?_
  refine pm_imul hC dX12_ones_15 ?_
  refine pm_iconst (v := 1) hC dX12_ones_16 ?_
  refine pm_iastore (len := 2400) hC 113 rfl rfl (by decide) ⟨by omega, by omega⟩ (by decide) dX12_ones_17 ?_
  exact pm_vret hC hR ⟨rfl, ((hV0.put 114 (a1 : Int).toNat (x := 1) (lo := 0) (hi := 600) rfl ⟨by decide, by decide⟩).put 113 ((a1 * 300) : Int).toNat (x := 1) (lo := 0) (hi := 9999) rfl ⟨by decide, by decide⟩), (((pm_fs.rf (cs := [113, 114]) (fs := []) (V := V0)).up 114 (a1 : Int).toNat 1 (by decide) rfl).up 113 ((a1 * 300) : Int).toNat 1 (by decide) rfl)⟩ dX12_ones_18
set_option maxHeartbeats 4000000 in
set_option maxRecDepth 100000 in
theorem B_X12_count (a1 : Int) (h0 : (-2147483648) ≤ a1 ∧ a1 ≤ 2147483647) : pm_K 1 yX12_count cX12_count 2 (some .int) (fun av V => av = [(3, 90), (0, a1)] ∧ pm_oq pm_qB V) (fun _ V r V' => ∃ y, r = some (0, y) ∧ ((-1) ≤ y ∧ y ≤ 500) ∧ V = V') := by
  refine pm_MT.of (by decide) ⟨Nat.le_refl _, by decide⟩ (fun av V h => by rw [h.1]; exact (by decide : pm_words [(3, 0), (0, 0)] ≤ 2)) ?_
  rintro X av V0 hC - hR ⟨rfl, hV0⟩
  change pm_J X 0 [(0, (3, 90)), (1, (0, a1))] [] 118 V0
  refine pm_iload_n hC 1 dX12_count_0 rfl ?_
  rcases (show (a1 < 0 ∨ 7 < a1) ∨ a1 = (0 : Int) ∨ a1 = (1 : Int) ∨ a1 = (2 : Int) ∨ a1 = (3 : Int) ∨ a1 = (4 : Int) ∨ a1 = (5 : Int) ∨ a1 = (6 : Int) ∨ a1 = (7 : Int) by omega) with c1 | c1 | c1 | c1 | c1 | c1 | c1 | c1 | c1
  · skip
    refine pm_tableOut (tgt := 88) hC ⟨by omega, by omega⟩ dX12_count_1 c1 (by decide) ?_
    refine pm_iconst (v := (-1)) hC dX12_count_88 ?_
    exact pm_iret hC hR pm_nar0 ⟨(-1), rfl, ⟨by omega, by omega⟩, rfl⟩ dX12_count_89
  · skip
    refine pm_tableIn (tgt := 48) (off := 47) hC ⟨by omega, by omega⟩ dX12_count_1 (by omega) (by omega) (by rw [c1]; rfl) (by decide) ?_
    refine pm_aload_n hC 0 (by decide) dX12_count_48 rfl ?_
    obtain ⟨y2, e3⟩ : ∃ y, V0 90 16 = y := ⟨_, rfl⟩
    have b4 := hV0.get 90 16 (lo := 2) (hi := 9) (by decide) (by decide) rfl
    rw [e3] at b4
    refine pm_getf (v := y2) hC 90 fl_X12_220 rfl rfl (by decide) rfl e3 dX12_count_49 ?_
    exact pm_iret hC hR pm_nar0 ⟨y2, rfl, ⟨by omega, by omega⟩, rfl⟩ dX12_count_52
  · skip
    refine pm_tableIn (tgt := 53) (off := 52) hC ⟨by omega, by omega⟩ dX12_count_1 (by omega) (by omega) (by rw [c1]; rfl) (by decide) ?_
    refine pm_aload_n hC 0 (by decide) dX12_count_53 rfl ?_
    obtain ⟨y5, e6⟩ : ∃ y, V0 90 21 = y := ⟨_, rfl⟩
    have b7 := hV0.get 90 21 (lo := 0) (hi := 12) (by decide) (by decide) rfl
    rw [e6] at b7
    refine pm_getf (v := y5) hC 90 fl_X12_223 rfl rfl (by decide) rfl e6 dX12_count_54 ?_
    exact pm_iret hC hR pm_nar0 ⟨y5, rfl, ⟨by omega, by omega⟩, rfl⟩ dX12_count_57
  · skip
    refine pm_tableIn (tgt := 58) (off := 57) hC ⟨by omega, by omega⟩ dX12_count_1 (by omega) (by omega) (by rw [c1]; rfl) (by decide) ?_
    refine pm_aload_n hC 0 (by decide) dX12_count_58 rfl ?_
    obtain ⟨y8, e9⟩ : ∃ y, V0 90 23 = y := ⟨_, rfl⟩
    have b10 := hV0.get 90 23 (lo := 0) (hi := 10) (by decide) (by decide) rfl
    rw [e9] at b10
    refine pm_getf (v := y8) hC 90 fl_X12_232 rfl rfl (by decide) rfl e9 dX12_count_59 ?_
    exact pm_iret hC hR pm_nar0 ⟨y8, rfl, ⟨by omega, by omega⟩, rfl⟩ dX12_count_62
  · skip
    refine pm_tableIn (tgt := 63) (off := 62) hC ⟨by omega, by omega⟩ dX12_count_1 (by omega) (by omega) (by rw [c1]; rfl) (by decide) ?_
    refine pm_aload_n hC 0 (by decide) dX12_count_63 rfl ?_
    obtain ⟨y11, e12⟩ : ∃ y, V0 90 25 = y := ⟨_, rfl⟩
    have b13 := hV0.get 90 25 (lo := 0) (hi := 60) (by decide) (by decide) rfl
    rw [e12] at b13
    refine pm_getf (v := y11) hC 90 fl_X12_235 rfl rfl (by decide) rfl e12 dX12_count_64 ?_
    exact pm_iret hC hR pm_nar0 ⟨y11, rfl, ⟨by omega, by omega⟩, rfl⟩ dX12_count_67
  · skip
    refine pm_tableIn (tgt := 68) (off := 67) hC ⟨by omega, by omega⟩ dX12_count_1 (by omega) (by omega) (by rw [c1]; rfl) (by decide) ?_
    refine pm_aload_n hC 0 (by decide) dX12_count_68 rfl ?_
    obtain ⟨y14, e15⟩ : ∃ y, V0 90 35 = y := ⟨_, rfl⟩
    have b16 := hV0.get 90 35 (lo := 0) (hi := 10) (by decide) (by decide) rfl
    rw [e15] at b16
    refine pm_getf (v := y14) hC 90 fl_X12_296 rfl rfl (by decide) rfl e15 dX12_count_69 ?_
    exact pm_iret hC hR pm_nar0 ⟨y14, rfl, ⟨by omega, by omega⟩, rfl⟩ dX12_count_72
  · skip
    refine pm_tableIn (tgt := 73) (off := 72) hC ⟨by omega, by omega⟩ dX12_count_1 (by omega) (by omega) (by rw [c1]; rfl) (by decide) ?_
    refine pm_aload_n hC 0 (by decide) dX12_count_73 rfl ?_
    obtain ⟨y17, e18⟩ : ∃ y, V0 90 19 = y := ⟨_, rfl⟩
    have b19 := hV0.get 90 19 (lo := 0) (hi := 16) (by decide) (by decide) rfl
    rw [e18] at b19
    refine pm_getf (v := y17) hC 90 fl_X12_226 rfl rfl (by decide) rfl e18 dX12_count_74 ?_
    exact pm_iret hC hR pm_nar0 ⟨y17, rfl, ⟨by omega, by omega⟩, rfl⟩ dX12_count_77
  · skip
    refine pm_tableIn (tgt := 78) (off := 77) hC ⟨by omega, by omega⟩ dX12_count_1 (by omega) (by omega) (by rw [c1]; rfl) (by decide) ?_
    refine pm_aload_n hC 0 (by decide) dX12_count_78 rfl ?_
    obtain ⟨y20, e21⟩ : ∃ y, V0 90 20 = y := ⟨_, rfl⟩
    have b22 := hV0.get 90 20 (lo := 1) (hi := 99) (by decide) (by decide) rfl
    rw [e21] at b22
    refine pm_getf (v := y20) hC 90 fl_X12_229 rfl rfl (by decide) rfl e21 dX12_count_79 ?_
    exact pm_iret hC hR pm_nar0 ⟨y20, rfl, ⟨by omega, by omega⟩, rfl⟩ dX12_count_82
  · skip
    refine pm_tableIn (tgt := 83) (off := 82) hC ⟨by omega, by omega⟩ dX12_count_1 (by omega) (by omega) (by rw [c1]; rfl) (by decide) ?_
    refine pm_aload_n hC 0 (by decide) dX12_count_83 rfl ?_
    obtain ⟨y23, e24⟩ : ∃ y, V0 90 1 = y := ⟨_, rfl⟩
    have b25 := hV0.get 90 1 (lo := 0) (hi := 500) (by decide) (by decide) rfl
    rw [e24] at b25
    refine pm_getf (v := y23) hC 90 fl_X12_94 rfl rfl (by decide) rfl e24 dX12_count_84 ?_
    exact pm_iret hC hR pm_nar0 ⟨y23, rfl, ⟨by omega, by omega⟩, rfl⟩ dX12_count_87
set_option maxHeartbeats 4000000 in
set_option maxRecDepth 100000 in
theorem B_X12_brought (a1 : Int) (h0 : (-9223372036854775808) ≤ a1 ∧ a1 ≤ 9223372036854775807) : pm_K 1 yX12_brought cX12_brought 2 (some .int) (fun av V => av = [(1, a1)] ∧ pm_oq pm_qB V) (fun _ V r V' => ∃ y, r = some (0, y) ∧ ((-1000000) ≤ y ∧ y ≤ 1000000) ∧ V = V') := by
  refine pm_MT.of (by decide) ⟨Nat.le_refl _, by decide⟩ (fun av V h => by rw [h.1]; exact (by decide : pm_words [(1, 0)] ≤ 2)) ?_
  rintro X av V0 hC - hR ⟨rfl, hV0⟩
  change pm_J X 0 [(0, (1, a1))] [] 118 V0
  refine pm_lload_n hC 0 dX12_brought_0 rfl ?_
  refine pm_ldc2 (v := (-1000000)) hC 8017 dX12_brought_1 (by decide +kernel) ?_
  refine pm_lcmp hC ⟨by omega, by omega⟩ ⟨by decide, by decide⟩ dX12_brought_4 (fun y1 b2 => ?_)
  refine pm_if_ge (tgt := 14) hC ⟨by omega, by omega⟩ dX12_brought_5 (by decide) (fun c3 => ?_) (fun c3 => ?_)
  · skip
    refine pm_lload_n hC 0 dX12_brought_14 rfl ?_
    refine pm_ldc2 (v := 1000000) hC 8018 dX12_brought_15 (by decide +kernel) ?_
    refine pm_lcmp hC ⟨by omega, by omega⟩ ⟨by decide, by decide⟩ dX12_brought_18 (fun y4 b5 => ?_)
    refine pm_if_le (tgt := 28) hC ⟨by omega, by omega⟩ dX12_brought_19 (by decide) (fun c6 => ?_) (fun c6 => ?_)
    · skip
      refine pm_lload_n hC 0 dX12_brought_28 rfl ?_
      refine pm_l2i hC dX12_brought_29 ?_
      exact pm_iret hC hR pm_nar0 ⟨a1, rfl, ⟨by omega, by omega⟩, rfl⟩ dX12_brought_30
    · skip
      refine pm_ldc2 (v := 1000000) hC 8018 dX12_brought_22 (by decide +kernel) ?_
      refine pm_goto (tgt := 29) hC dX12_brought_25 (by decide) ?_
      refine pm_l2i hC dX12_brought_29 ?_
      exact pm_iret hC hR pm_nar0 ⟨1000000, rfl, ⟨by omega, by omega⟩, rfl⟩ dX12_brought_30
  · skip
    refine pm_ldc2 (v := (-1000000)) hC 8017 dX12_brought_8 (by decide +kernel) ?_
    refine pm_goto (tgt := 29) hC dX12_brought_11 (by decide) ?_
    refine pm_l2i hC dX12_brought_29 ?_
    exact pm_iret hC hR pm_nar0 ⟨(-1000000), rfl, ⟨by omega, by omega⟩, rfl⟩ dX12_brought_30
set_option maxHeartbeats 4000000 in
set_option maxRecDepth 100000 in
theorem B_X12_end (a1 : Int) (h0 : (-2147483648) ≤ a1 ∧ a1 ≤ 2147483647) : pm_K 2 yX12_end cX12_end 2 (some .boolean) (fun av V => av = [(3, 90), (0, a1)] ∧ pm_oq pm_qB V) (fun _ V r V' => ∃ y, r = some (0, y) ∧ (0 ≤ y ∧ y ≤ 1) ∧ pm_oq pm_qB V' ∧ pm_fs [] [1] V V') := by
  refine pm_MT.of (by decide) ⟨Nat.le_refl _, by decide⟩ (fun av V h => by rw [h.1]; exact (by decide : pm_words [(3, 0), (0, 0)] ≤ 2)) ?_
  rintro X av V0 hC - hR ⟨rfl, hV0⟩
  change pm_J X 0 [(0, (3, 90)), (1, (0, a1))] [] 118 V0
  refine pm_iload_n hC 1 dX12_end_0 rfl ?_
  refine pm_iconst (v := 0) hC dX12_end_1 ?_
  refine pm_aload_n hC 0 (by decide) dX12_end_2 rfl ?_
  obtain ⟨y1, e2⟩ : ∃ y, V0 90 1 = y := ⟨_, rfl⟩
  have b3 := hV0.get 90 1 (lo := 0) (hi := 500) (by decide) (by decide) rfl
  rw [e2] at b3
  refine pm_getf (v := y1) hC 90 fl_X12_94 rfl rfl (by decide) rfl e2 dX12_end_3 ?_
  refine pm_callS (as := [(0, a1), (0, 0), (0, y1)]) (st := []) hC (B_X12_in a1 0 y1 ⟨by omega, by omega⟩ ⟨by decide, by decide⟩ ⟨by omega, by omega⟩) lm_X12_98 ls_X12_in (by decide) (by decide) rfl rfl (Nat.le_of_ble_eq_true rfl) ⟨Nat.le_refl _, Or.inl rfl⟩ dX12_end_6 ⟨rfl, hV0⟩ (fun r4 V5 hp6 => ?_)
  obtain ⟨y7, rfl, b8, rfl⟩ := hp6
  change pm_J X 9 [(0, (3, 90)), (1, (0, a1))] [(0, y7)] 118 V0
  refine pm_if_ne (tgt := 14) hC ⟨by omega, by omega⟩ dX12_end_9 (by decide) (fun c9 => ?_) (fun c9 => ?_)
  · skip
    refine pm_aload_n hC 0 (by decide) dX12_end_14 rfl ?_
    refine pm_iload_n hC 1 dX12_end_15 rfl ?_
    refine pm_putf hC 90 fl_X12_94 rfl rfl rfl (by decide) rfl trivial dX12_end_16 ?_
    refine pm_iconst (v := 1) hC dX12_end_19 ?_
    exact pm_iret hC hR (pm_narZ (by omega)) ⟨1, rfl, ⟨by omega, by omega⟩, (hV0.put 90 1 (x := a1) (lo := 0) (hi := 500) rfl ⟨by omega, by omega⟩), ((pm_fs.rf (cs := []) (fs := [1]) (V := V0)).upf 1 a1 rfl)⟩ dX12_end_20
  · skip
    refine pm_iconst (v := 0) hC dX12_end_12 ?_
    exact pm_iret hC hR (pm_narZ (by omega)) ⟨0, rfl, ⟨by omega, by omega⟩, hV0, (pm_fs.rf (cs := []) (fs := [1]) (V := V0))⟩ dX12_end_13
set_option maxHeartbeats 4000000 in
set_option maxRecDepth 100000 in
theorem B_X12_isSign (a1 : Int) (h0 : (-2147483648) ≤ a1 ∧ a1 ≤ 2147483647) : pm_K 1 yX12_isSign cX12_isSign 2 (some .boolean) (fun av V => av = [(3, 90), (0, a1)] ∧ pm_oq pm_qB V) (fun _ V r V' => ∃ y, r = some (0, y) ∧ (0 ≤ y ∧ y ≤ 1) ∧ V = V') := by
  refine pm_MT.of (by decide) ⟨Nat.le_refl _, by decide⟩ (fun av V h => by rw [h.1]; exact (by decide : pm_words [(3, 0), (0, 0)] ≤ 2)) ?_
  rintro X av V0 hC - hR ⟨rfl, hV0⟩
  change pm_J X 0 [(0, (3, 90)), (1, (0, a1))] [] 118 V0
  refine pm_aload_n hC 0 (by decide) dX12_isSign_0 rfl ?_
  obtain ⟨y1, e2⟩ : ∃ y, V0 90 3 = y := ⟨_, rfl⟩
  have b3 := hV0.get 90 3 (lo := 0) (hi := 4) (by decide) (by decide) rfl
  rw [e2] at b3
  refine pm_getf (v := y1) hC 90 fl_X12_112 rfl rfl (by decide) rfl e2 dX12_isSign_1 ?_
  refine pm_iconst (v := 3) hC dX12_isSign_4 ?_
  refine pm_icmp_ne (tgt := 22) hC ⟨by omega, by omega⟩ ⟨by decide, by decide⟩ dX12_isSign_5 (by decide) (fun c4 => ?_) (fun c4 => ?_)
  · skip
    refine pm_iconst (v := 0) hC dX12_isSign_22 ?_
    exact pm_iret hC hR (pm_narZ (by omega)) ⟨0, rfl, ⟨by omega, by omega⟩, rfl⟩ dX12_isSign_23
  · skip
    refine pm_aload_n hC 0 (by decide) dX12_isSign_8 rfl ?_
    obtain ⟨y5, e6⟩ : ∃ y, V0 90 5 = y := ⟨_, rfl⟩
    have b7 := hV0.get 90 5 (lo := (-9223372036854775808)) (hi := 9223372036854775807) (by decide) (by decide) rfl
    rw [e6] at b7
    refine pm_getf (v := y5) hC 90 fl_X12_108 rfl rfl (by decide) rfl e6 dX12_isSign_9 ?_
    refine pm_iload_n hC 1 dX12_isSign_12 rfl ?_
    refine pm_i2l hC ⟨by omega, by omega⟩ dX12_isSign_13 ?_
    refine pm_lcmp hC ⟨by omega, by omega⟩ ⟨by omega, by omega⟩ dX12_isSign_14 (fun y8 b9 => ?_)
    refine pm_if_ne (tgt := 22) hC ⟨by omega, by omega⟩ dX12_isSign_15 (by decide) (fun c10 => ?_) (fun c10 => ?_)
    · skip
      refine pm_iconst (v := 0) hC dX12_isSign_22 ?_
      exact pm_iret hC hR (pm_narZ (by omega)) ⟨0, rfl, ⟨by omega, by omega⟩, rfl⟩ dX12_isSign_23
    · skip
      refine pm_iconst (v := 1) hC dX12_isSign_18 ?_
      refine pm_goto (tgt := 23) hC dX12_isSign_19 (by decide) ?_
      exact pm_iret hC hR (pm_narZ (by omega)) ⟨1, rfl, ⟨by omega, by omega⟩, rfl⟩ dX12_isSign_23
set_option maxHeartbeats 4000000 in
set_option maxRecDepth 100000 in
theorem B_X12_isLetter (a1 : Int) (h0 : (-2147483648) ≤ a1 ∧ a1 ≤ 2147483647) : pm_K 1 yX12_isLetter cX12_isLetter 1 (some .boolean) (fun av V => av = [(0, a1)] ∧ pm_oq pm_qB V) (fun _ V r V' => ∃ y, r = some (0, y) ∧ (0 ≤ y ∧ y ≤ 1) ∧ V = V') := by
  refine pm_MT.of (by decide) ⟨Nat.le_refl _, by decide⟩ (fun av V h => by rw [h.1]; exact (by decide : pm_words [(0, 0)] ≤ 1)) ?_
  rintro X av V0 hC - hR ⟨rfl, hV0⟩
  change pm_J X 0 [(0, (0, a1))] [] 118 V0
  refine pm_iload_n hC 0 dX12_isLetter_0 rfl ?_
  refine pm_bipush (v := 97) hC dX12_isLetter_1 (by decide) ?_
  refine pm_icmp_lt (tgt := 16) hC ⟨by omega, by omega⟩ ⟨by decide, by decide⟩ dX12_isLetter_3 (by decide) (fun c1 => ?_) (fun c1 => ?_)
  · skip
    refine pm_iconst (v := 0) hC dX12_isLetter_16 ?_
    exact pm_iret hC hR (pm_narZ (by omega)) ⟨0, rfl, ⟨by omega, by omega⟩, rfl⟩ dX12_isLetter_17
  · skip
    refine pm_iload_n hC 0 dX12_isLetter_6 rfl ?_
    refine pm_bipush (v := 122) hC dX12_isLetter_7 (by decide) ?_
    refine pm_icmp_gt (tgt := 16) hC ⟨by omega, by omega⟩ ⟨by decide, by decide⟩ dX12_isLetter_9 (by decide) (fun c2 => ?_) (fun c2 => ?_)
    · skip
      refine pm_iconst (v := 0) hC dX12_isLetter_16 ?_
      exact pm_iret hC hR (pm_narZ (by omega)) ⟨0, rfl, ⟨by omega, by omega⟩, rfl⟩ dX12_isLetter_17
    · skip
      refine pm_iconst (v := 1) hC dX12_isLetter_12 ?_
      refine pm_goto (tgt := 17) hC dX12_isLetter_13 (by decide) ?_
      exact pm_iret hC hR (pm_narZ (by omega)) ⟨1, rfl, ⟨by omega, by omega⟩, rfl⟩ dX12_isLetter_17
set_option maxHeartbeats 4000000 in
set_option maxRecDepth 100000 in
theorem B_X12_isDigit (a1 : Int) (h0 : (-2147483648) ≤ a1 ∧ a1 ≤ 2147483647) : pm_K 1 yX12_isDigit cX12_isDigit 1 (some .boolean) (fun av V => av = [(0, a1)] ∧ pm_oq pm_qB V) (fun _ V r V' => ∃ y, r = some (0, y) ∧ (0 ≤ y ∧ y ≤ 1) ∧ V = V') := by
  refine pm_MT.of (by decide) ⟨Nat.le_refl _, by decide⟩ (fun av V h => by rw [h.1]; exact (by decide : pm_words [(0, 0)] ≤ 1)) ?_
  rintro X av V0 hC - hR ⟨rfl, hV0⟩
  change pm_J X 0 [(0, (0, a1))] [] 118 V0
  refine pm_iload_n hC 0 dX12_isDigit_0 rfl ?_
  refine pm_bipush (v := 48) hC dX12_isDigit_1 (by decide) ?_
  refine pm_icmp_lt (tgt := 16) hC ⟨by omega, by omega⟩ ⟨by decide, by decide⟩ dX12_isDigit_3 (by decide) (fun c1 => ?_) (fun c1 => ?_)
  · skip
    refine pm_iconst (v := 0) hC dX12_isDigit_16 ?_
    exact pm_iret hC hR (pm_narZ (by omega)) ⟨0, rfl, ⟨by omega, by omega⟩, rfl⟩ dX12_isDigit_17
  · skip
    refine pm_iload_n hC 0 dX12_isDigit_6 rfl ?_
    refine pm_bipush (v := 57) hC dX12_isDigit_7 (by decide) ?_
    refine pm_icmp_gt (tgt := 16) hC ⟨by omega, by omega⟩ ⟨by decide, by decide⟩ dX12_isDigit_9 (by decide) (fun c2 => ?_) (fun c2 => ?_)
    · skip
      refine pm_iconst (v := 0) hC dX12_isDigit_16 ?_
      exact pm_iret hC hR (pm_narZ (by omega)) ⟨0, rfl, ⟨by omega, by omega⟩, rfl⟩ dX12_isDigit_17
    · skip
      refine pm_iconst (v := 1) hC dX12_isDigit_12 ?_
      refine pm_goto (tgt := 17) hC dX12_isDigit_13 (by decide) ?_
      exact pm_iret hC hR (pm_narZ (by omega)) ⟨1, rfl, ⟨by omega, by omega⟩, rfl⟩ dX12_isDigit_17
set_option maxHeartbeats 4000000 in
set_option maxRecDepth 100000 in
theorem B_X12_isSignByte (a1 : Int) (h0 : (-2147483648) ≤ a1 ∧ a1 ≤ 2147483647) : pm_K 1 yX12_isSignByte cX12_isSignByte 1 (some .boolean) (fun av V => av = [(0, a1)] ∧ pm_oq pm_qB V) (fun _ V r V' => ∃ y, r = some (0, y) ∧ (0 ≤ y ∧ y ≤ 1) ∧ V = V') := by
  refine pm_MT.of (by decide) ⟨Nat.le_refl _, by decide⟩ (fun av V h => by rw [h.1]; exact (by decide : pm_words [(0, 0)] ≤ 1)) ?_
  rintro X av V0 hC - hR ⟨rfl, hV0⟩
  change pm_J X 0 [(0, (0, a1))] [] 118 V0
  refine pm_iload_n hC 0 dX12_isSignByte_0 rfl ?_
  refine pm_bipush (v := 43) hC dX12_isSignByte_1 (by decide) ?_
  refine pm_icmp_eq (tgt := 48) hC ⟨by omega, by omega⟩ ⟨by decide, by decide⟩ dX12_isSignByte_3 (by decide) (fun c1 => ?_) (fun c1 => ?_)
  · skip
    refine pm_iconst (v := 1) hC dX12_isSignByte_48 ?_
    refine pm_goto (tgt := 53) hC dX12_isSignByte_49 (by decide) ?_
    exact pm_iret hC hR (pm_narZ (by omega)) ⟨1, rfl, ⟨by omega, by omega⟩, rfl⟩ dX12_isSignByte_53
  · skip
    refine pm_iload_n hC 0 dX12_isSignByte_6 rfl ?_
    refine pm_bipush (v := 45) hC dX12_isSignByte_7 (by decide) ?_
    refine pm_icmp_eq (tgt := 48) hC ⟨by omega, by omega⟩ ⟨by decide, by decide⟩ dX12_isSignByte_9 (by decide) (fun c2 => ?_) (fun c2 => ?_)
    · skip
      refine pm_iconst (v := 1) hC dX12_isSignByte_48 ?_
      refine pm_goto (tgt := 53) hC dX12_isSignByte_49 (by decide) ?_
      exact pm_iret hC hR (pm_narZ (by omega)) ⟨1, rfl, ⟨by omega, by omega⟩, rfl⟩ dX12_isSignByte_53
    · skip
      refine pm_iload_n hC 0 dX12_isSignByte_12 rfl ?_
      refine pm_bipush (v := 42) hC dX12_isSignByte_13 (by decide) ?_
      refine pm_icmp_eq (tgt := 48) hC ⟨by omega, by omega⟩ ⟨by decide, by decide⟩ dX12_isSignByte_15 (by decide) (fun c3 => ?_) (fun c3 => ?_)
      · skip
        refine pm_iconst (v := 1) hC dX12_isSignByte_48 ?_
        refine pm_goto (tgt := 53) hC dX12_isSignByte_49 (by decide) ?_
        exact pm_iret hC hR (pm_narZ (by omega)) ⟨1, rfl, ⟨by omega, by omega⟩, rfl⟩ dX12_isSignByte_53
      · skip
        refine pm_iload_n hC 0 dX12_isSignByte_18 rfl ?_
        refine pm_bipush (v := 60) hC dX12_isSignByte_19 (by decide) ?_
        refine pm_icmp_eq (tgt := 48) hC ⟨by omega, by omega⟩ ⟨by decide, by decide⟩ dX12_isSignByte_21 (by decide) (fun c4 => ?_) (fun c4 => ?_)
        · skip
          refine pm_iconst (v := 1) hC dX12_isSignByte_48 ?_
          refine pm_goto (tgt := 53) hC dX12_isSignByte_49 (by decide) ?_
          exact pm_iret hC hR (pm_narZ (by omega)) ⟨1, rfl, ⟨by omega, by omega⟩, rfl⟩ dX12_isSignByte_53
        · skip
          refine pm_iload_n hC 0 dX12_isSignByte_24 rfl ?_
          refine pm_bipush (v := 61) hC dX12_isSignByte_25 (by decide) ?_
          refine pm_icmp_eq (tgt := 48) hC ⟨by omega, by omega⟩ ⟨by decide, by decide⟩ dX12_isSignByte_27 (by decide) (fun c5 => ?_) (fun c5 => ?_)
          · skip
            refine pm_iconst (v := 1) hC dX12_isSignByte_48 ?_
            refine pm_goto (tgt := 53) hC dX12_isSignByte_49 (by decide) ?_
            exact pm_iret hC hR (pm_narZ (by omega)) ⟨1, rfl, ⟨by omega, by omega⟩, rfl⟩ dX12_isSignByte_53
          · skip
            refine pm_iload_n hC 0 dX12_isSignByte_30 rfl ?_
            refine pm_bipush (v := 40) hC dX12_isSignByte_31 (by decide) ?_
            refine pm_icmp_eq (tgt := 48) hC ⟨by omega, by omega⟩ ⟨by decide, by decide⟩ dX12_isSignByte_33 (by decide) (fun c6 => ?_) (fun c6 => ?_)
            · skip
              refine pm_iconst (v := 1) hC dX12_isSignByte_48 ?_
              refine pm_goto (tgt := 53) hC dX12_isSignByte_49 (by decide) ?_
              exact pm_iret hC hR (pm_narZ (by omega)) ⟨1, rfl, ⟨by omega, by omega⟩, rfl⟩ dX12_isSignByte_53
            · skip
              refine pm_iload_n hC 0 dX12_isSignByte_36 rfl ?_
              refine pm_bipush (v := 41) hC dX12_isSignByte_37 (by decide) ?_
              refine pm_icmp_eq (tgt := 48) hC ⟨by omega, by omega⟩ ⟨by decide, by decide⟩ dX12_isSignByte_39 (by decide) (fun c7 => ?_) (fun c7 => ?_)
              · skip
                refine pm_iconst (v := 1) hC dX12_isSignByte_48 ?_
                refine pm_goto (tgt := 53) hC dX12_isSignByte_49 (by decide) ?_
                exact pm_iret hC hR (pm_narZ (by omega)) ⟨1, rfl, ⟨by omega, by omega⟩, rfl⟩ dX12_isSignByte_53
              · skip
                refine pm_iload_n hC 0 dX12_isSignByte_42 rfl ?_
                refine pm_bipush (v := 59) hC dX12_isSignByte_43 (by decide) ?_
                refine pm_icmp_ne (tgt := 52) hC ⟨by omega, by omega⟩ ⟨by decide, by decide⟩ dX12_isSignByte_45 (by decide) (fun c8 => ?_) (fun c8 => ?_)
                · skip
                  refine pm_iconst (v := 0) hC dX12_isSignByte_52 ?_
                  exact pm_iret hC hR (pm_narZ (by omega)) ⟨0, rfl, ⟨by omega, by omega⟩, rfl⟩ dX12_isSignByte_53
                · skip
                  refine pm_iconst (v := 1) hC dX12_isSignByte_48 ?_
                  refine pm_goto (tgt := 53) hC dX12_isSignByte_49 (by decide) ?_
                  exact pm_iret hC hR (pm_narZ (by omega)) ⟨1, rfl, ⟨by omega, by omega⟩, rfl⟩ dX12_isSignByte_53
