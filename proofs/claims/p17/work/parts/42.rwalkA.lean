set_option maxHeartbeats 4000000 in
set_option maxRecDepth 100000 in
theorem A_X12_sound (a1 a2 : Int) (h0 : (-2147483648) ≤ a1 ∧ a1 ≤ 2147483647) (h1 : (-2147483648) ≤ a2 ∧ a2 ≤ 2147483647) : pm_K 1 yX12_sound cX12_sound 3 (some .int) (fun av V => av = [(3, 90), (0, a1), (0, a2)] ∧ pm_oq pm_qA V) (fun _ V r V' => ∃ y, r = some (0, y) ∧ ((-1) ≤ y ∧ y ≤ (-1)) ∧ V = V') := by
  refine pm_MT.of (by decide) ⟨Nat.le_refl _, by decide⟩ (fun av V h => by rw [h.1]; exact (by decide : pm_words [(3, 0), (0, 0), (0, 0)] ≤ 3)) ?_
  rintro X av V0 hC - hR ⟨rfl, hV0⟩
  change pm_J X 0 [(0, (3, 90)), (1, (0, a1)), (2, (0, a2))] [] 118 V0
  refine pm_aload_n hC 0 (by decide) dX12_sound_0 rfl ?_
  have e1 : V0 90 15 = 0 := hV0.one 90 15 (by decide) (by decide) rfl
  refine pm_getf (v := 0) hC 90 fl_X12_216 rfl rfl (by decide) rfl e1 dX12_sound_1 ?_
  refine pm_if_eq (tgt := 43) hC ⟨by decide, by decide⟩ dX12_sound_4 (by decide) (fun c2 => ?_) (fun c2 => ?_)
  · skip
    refine pm_iconst (v := (-1)) hC dX12_sound_43 ?_
    exact pm_iret hC hR pm_nar0 ⟨(-1), rfl, ⟨by omega, by omega⟩, rfl⟩ dX12_sound_44
  · skip
    exfalso; omega
set_option maxHeartbeats 4000000 in
set_option maxRecDepth 100000 in
theorem A_X12_person (a1 a2 a3 : Int) (h0 : (-2147483648) ≤ a1 ∧ a1 ≤ 2147483647) (h1 : (-2147483648) ≤ a2 ∧ a2 ≤ 2147483647) (h2 : (-2147483648) ≤ a3 ∧ a3 ≤ 2147483647) : pm_K 1 yX12_person cX12_person 4 (some .int) (fun av V => av = [(3, 90), (0, a1), (0, a2), (0, a3)] ∧ pm_oq pm_qA V) (fun _ V r V' => ∃ y, r = some (0, y) ∧ ((-1) ≤ y ∧ y ≤ (-1)) ∧ V = V') := by
  refine pm_MT.of (by decide) ⟨Nat.le_refl _, by decide⟩ (fun av V h => by rw [h.1]; exact (by decide : pm_words [(3, 0), (0, 0), (0, 0), (0, 0)] ≤ 4)) ?_
  rintro X av V0 hC - hR ⟨rfl, hV0⟩
  change pm_J X 0 [(0, (3, 90)), (1, (0, a1)), (2, (0, a2)), (3, (0, a3))] [] 118 V0
  refine pm_aload_n hC 0 (by decide) dX12_person_0 rfl ?_
  have e1 : V0 90 15 = 0 := hV0.one 90 15 (by decide) (by decide) rfl
  refine pm_getf (v := 0) hC 90 fl_X12_216 rfl rfl (by decide) rfl e1 dX12_person_1 ?_
  refine pm_if_eq (tgt := 40) hC ⟨by decide, by decide⟩ dX12_person_4 (by decide) (fun c2 => ?_) (fun c2 => ?_)
  · skip
    refine pm_iconst (v := (-1)) hC dX12_person_40 ?_
    exact pm_iret hC hR pm_nar0 ⟨(-1), rfl, ⟨by omega, by omega⟩, rfl⟩ dX12_person_41
  · skip
    exfalso; omega
set_option maxHeartbeats 4000000 in
set_option maxRecDepth 100000 in
theorem A_X12_isPerson (a1 : Int) (h0 : (-2147483648) ≤ a1 ∧ a1 ≤ 2147483647) : pm_K 1 yX12_isPerson cX12_isPerson 2 (some .boolean) (fun av V => av = [(3, 90), (0, a1)] ∧ pm_oq pm_qA V) (fun _ V r V' => ∃ y, r = some (0, y) ∧ (0 ≤ y ∧ y ≤ 0 ∧ (y = 1 → (0 ≤ a1 ∧ a1 ≤ 9))) ∧ V = V') := by
  refine pm_MT.of (by decide) ⟨Nat.le_refl _, by decide⟩ (fun av V h => by rw [h.1]; exact (by decide : pm_words [(3, 0), (0, 0)] ≤ 2)) ?_
  rintro X av V0 hC - hR ⟨rfl, hV0⟩
  change pm_J X 0 [(0, (3, 90)), (1, (0, a1))] [] 118 V0
  refine pm_aload_n hC 0 (by decide) dX12_isPerson_0 rfl ?_
  have e1 : V0 90 15 = 0 := hV0.one 90 15 (by decide) (by decide) rfl
  refine pm_getf (v := 0) hC 90 fl_X12_216 rfl rfl (by decide) rfl e1 dX12_isPerson_1 ?_
  refine pm_if_eq (tgt := 25) hC ⟨by decide, by decide⟩ dX12_isPerson_4 (by decide) (fun c2 => ?_) (fun c2 => ?_)
  · skip
    refine pm_iconst (v := 0) hC dX12_isPerson_25 ?_
    exact pm_iret hC hR (pm_narZ (by omega)) ⟨0, rfl, ⟨by omega, by omega, by omega⟩, rfl⟩ dX12_isPerson_26
  · skip
    exfalso; omega
set_option maxHeartbeats 4000000 in
set_option maxRecDepth 100000 in
theorem A_X12_who (a1 a2 : Int) (h0 : (-2147483648) ≤ a1 ∧ a1 ≤ 2147483647) (h1 : (-2147483648) ≤ a2 ∧ a2 ≤ 2147483647) : pm_K 2 yX12_who cX12_who 3 (some .int) (fun av V => av = [(3, 90), (0, a1), (0, a2)] ∧ pm_oq pm_qA V) (fun _ V r V' => ∃ y, r = some (0, y) ∧ ((-2147483648) ≤ y ∧ y ≤ (-2147483648)) ∧ V = V') := by
  refine pm_MT.of (by decide) ⟨Nat.le_refl _, by decide⟩ (fun av V h => by rw [h.1]; exact (by decide : pm_words [(3, 0), (0, 0), (0, 0)] ≤ 3)) ?_
  rintro X av V0 hC - hR ⟨rfl, hV0⟩
  change pm_J X 0 [(0, (3, 90)), (1, (0, a1)), (2, (0, a2))] [] 118 V0
  refine pm_aload_n hC 0 (by decide) dX12_who_0 rfl ?_
  refine pm_iload_n hC 1 dX12_who_1 rfl ?_
  refine pm_callV (ci := 12) (as := [(0, a1)]) (st := []) hC 90 (A_X12_isPerson a1 ⟨by omega, by omega⟩) lm_X12_302 li_X12_isPerson (by decide) (by decide) rfl rfl rfl (by decide) rfl rfl (Nat.le_of_ble_eq_true rfl) ⟨Nat.le_refl _, Or.inl rfl⟩ dX12_who_2 ⟨rfl, hV0⟩ (fun r1 V2 hp3 => ?_)
  obtain ⟨y4, rfl, b5, rfl⟩ := hp3
  change pm_J X 5 [(0, (3, 90)), (1, (0, a1)), (2, (0, a2))] [(0, y4)] 118 V0
  refine pm_if_eq (tgt := 30) hC ⟨by omega, by omega⟩ dX12_who_5 (by decide) (fun c6 => ?_) (fun c6 => ?_)
  · skip
    refine pm_ldcw (v := (-2147483648)) hC 7000 dX12_who_30 (by decide +kernel) ?_
    exact pm_iret hC hR pm_nar0 ⟨(-2147483648), rfl, ⟨by omega, by omega⟩, rfl⟩ dX12_who_33
  · skip
    exfalso; omega
set_option maxHeartbeats 4000000 in
set_option maxRecDepth 100000 in
theorem A_X12_becomes (a1 a2 a3 a4 : Int) (h0 : (-2147483648) ≤ a1 ∧ a1 ≤ 2147483647) (h1 : (-2147483648) ≤ a2 ∧ a2 ≤ 2147483647) (h2 : (-2147483648) ≤ a3 ∧ a3 ≤ 2147483647) (h3 : (-2147483648) ≤ a4 ∧ a4 ≤ 2147483647) : pm_K 2 yX12_becomes cX12_becomes 5 (some .boolean) (fun av V => av = [(3, 90), (0, a1), (0, a2), (0, a3), (0, a4)] ∧ pm_oq pm_qA V) (fun _ V r V' => ∃ y, r = some (0, y) ∧ (0 ≤ y ∧ y ≤ 0) ∧ V = V') := by
  refine pm_MT.of (by decide) ⟨Nat.le_refl _, by decide⟩ (fun av V h => by rw [h.1]; exact (by decide : pm_words [(3, 0), (0, 0), (0, 0), (0, 0), (0, 0)] ≤ 5)) ?_
  rintro X av V0 hC - hR ⟨rfl, hV0⟩
  change pm_J X 0 [(0, (3, 90)), (1, (0, a1)), (2, (0, a2)), (3, (0, a3)), (4, (0, a4))] [] 118 V0
  refine pm_aload_n hC 0 (by decide) dX12_becomes_0 rfl ?_
  refine pm_iload_n hC 1 dX12_becomes_1 rfl ?_
  refine pm_callV (ci := 12) (as := [(0, a1)]) (st := []) hC 90 (A_X12_isPerson a1 ⟨by omega, by omega⟩) lm_X12_302 li_X12_isPerson (by decide) (by decide) rfl rfl rfl (by decide) rfl rfl (Nat.le_of_ble_eq_true rfl) ⟨Nat.le_refl _, Or.inl rfl⟩ dX12_becomes_2 ⟨rfl, hV0⟩ (fun r1 V2 hp3 => ?_)
  obtain ⟨y4, rfl, b5, rfl⟩ := hp3
  change pm_J X 5 [(0, (3, 90)), (1, (0, a1)), (2, (0, a2)), (3, (0, a3)), (4, (0, a4))] [(0, y4)] 118 V0
  refine pm_if_eq (tgt := 18) hC ⟨by omega, by omega⟩ dX12_becomes_5 (by decide) (fun c6 => ?_) (fun c6 => ?_)
  · skip
    refine pm_iconst (v := 0) hC dX12_becomes_18 ?_
    exact pm_iret hC hR (pm_narZ (by omega)) ⟨0, rfl, ⟨by omega, by omega⟩, rfl⟩ dX12_becomes_19
  · skip
    exfalso; omega
set_option maxHeartbeats 4000000 in
set_option maxRecDepth 100000 in
theorem A_X12_in (a1 a2 a3 : Int) (h0 : (-2147483648) ≤ a1 ∧ a1 ≤ 2147483647) (h1 : (-2147483648) ≤ a2 ∧ a2 ≤ 2147483647) (h2 : (-2147483648) ≤ a3 ∧ a3 ≤ 2147483647) : pm_K 1 yX12_in cX12_in 3 (some .boolean) (fun av V => av = [(0, a1), (0, a2), (0, a3)] ∧ pm_oq pm_qA V) (fun _ V r V' => ∃ y, r = some (0, y) ∧ (0 ≤ y ∧ y ≤ 1 ∧ (y = 1 → a2 ≤ a1 ∧ a1 ≤ a3)) ∧ V = V') := by
  refine pm_MT.of (by decide) ⟨Nat.le_refl _, by decide⟩ (fun av V h => by rw [h.1]; exact (by decide : pm_words [(0, 0), (0, 0), (0, 0)] ≤ 3)) ?_
  rintro X av V0 hC - hR ⟨rfl, hV0⟩
  change pm_J X 0 [(0, (0, a1)), (1, (0, a2)), (2, (0, a3))] [] 118 V0
  refine pm_iload_n hC 0 dX12_in_0 rfl ?_
  refine pm_iload_n hC 1 dX12_in_1 rfl ?_
  refine pm_icmp_lt (tgt := 14) hC ⟨by omega, by omega⟩ ⟨by omega, by omega⟩ dX12_in_2 (by decide) (fun c1 => ?_) (fun c1 => ?_)
  · skip
    refine pm_iconst (v := 0) hC dX12_in_14 ?_
    exact pm_iret hC hR (pm_narZ (by omega)) ⟨0, rfl, ⟨by omega, by omega, by omega⟩, rfl⟩ dX12_in_15
  · skip
    refine pm_iload_n hC 0 dX12_in_5 rfl ?_
    refine pm_iload_n hC 2 dX12_in_6 rfl ?_
    refine pm_icmp_gt (tgt := 14) hC ⟨by omega, by omega⟩ ⟨by omega, by omega⟩ dX12_in_7 (by decide) (fun c2 => ?_) (fun c2 => ?_)
    · skip
      refine pm_iconst (v := 0) hC dX12_in_14 ?_
      exact pm_iret hC hR (pm_narZ (by omega)) ⟨0, rfl, ⟨by omega, by omega, by omega⟩, rfl⟩ dX12_in_15
    · skip
      refine pm_iconst (v := 1) hC dX12_in_10 ?_
      refine pm_goto (tgt := 15) hC dX12_in_11 (by decide) ?_
      exact pm_iret hC hR (pm_narZ (by omega)) ⟨1, rfl, ⟨by omega, by omega, by omega⟩, rfl⟩ dX12_in_15
set_option maxHeartbeats 4000000 in
set_option maxRecDepth 100000 in
theorem A_X12_isLaw (a1 : Int) (h0 : (-2147483648) ≤ a1 ∧ a1 ≤ 2147483647) : pm_K 2 yX12_isLaw cX12_isLaw 1 (some .boolean) (fun av V => av = [(0, a1)] ∧ pm_oq pm_qA V) (fun _ V r V' => ∃ y, r = some (0, y) ∧ (0 ≤ y ∧ y ≤ 1 ∧ (y = 1 → (0 ≤ a1 ∧ a1 ≤ 6))) ∧ V = V') := by
  refine pm_MT.of (by decide) ⟨Nat.le_refl _, by decide⟩ (fun av V h => by rw [h.1]; exact (by decide : pm_words [(0, 0)] ≤ 1)) ?_
  rintro X av V0 hC - hR ⟨rfl, hV0⟩
  change pm_J X 0 [(0, (0, a1))] [] 118 V0
  refine pm_iload_n hC 0 dX12_isLaw_0 rfl ?_
  refine pm_iconst (v := 0) hC dX12_isLaw_1 ?_
  refine pm_bipush (v := 6) hC dX12_isLaw_2 (by decide) ?_
  refine pm_callS (as := [(0, a1), (0, 0), (0, 6)]) (st := []) hC (A_X12_in a1 0 6 ⟨by omega, by omega⟩ ⟨by decide, by decide⟩ ⟨by decide, by decide⟩) lm_X12_98 ls_X12_in (by decide) (by decide) rfl rfl (Nat.le_of_ble_eq_true rfl) ⟨Nat.le_refl _, Or.inl rfl⟩ dX12_isLaw_4 ⟨rfl, hV0⟩ (fun r1 V2 hp3 => ?_)
  obtain ⟨y4, rfl, b5, rfl⟩ := hp3
  change pm_J X 7 [(0, (0, a1))] [(0, y4)] 118 V0
  exact pm_iret hC hR (pm_narZ (by omega)) ⟨y4, rfl, ⟨by omega, by omega, by omega⟩, rfl⟩ dX12_isLaw_7
set_option maxHeartbeats 4000000 in
set_option maxRecDepth 100000 in
theorem A_X12_isTrial (a1 a2 a3 : Int) (h0 : (-2147483648) ≤ a1 ∧ a1 ≤ 2147483647) (h1 : (-2147483648) ≤ a2 ∧ a2 ≤ 2147483647) (h2 : (-2147483648) ≤ a3 ∧ a3 ≤ 2147483647) : pm_K 1 yX12_isTrial cX12_isTrial 4 (some .boolean) (fun av V => av = [(3, 90), (0, a1), (0, a2), (0, a3)] ∧ pm_oq pm_qA V) (fun _ V r V' => ∃ y, r = some (0, y) ∧ (0 ≤ y ∧ y ≤ 0 ∧ (y = 1 → (0 ≤ a1 ∧ a1 ≤ 999 ∧ 0 ≤ a2 ∧ a2 ≤ 99 ∧ (-99) ≤ a3 ∧ a3 ≤ 99 ∧ a1 % 10 ≤ 8 ∧ a1 / 10 % 10 ≤ 8 ∧ a1 % 10 < V 90 16 ∧ a1 / 10 % 10 < V 90 16))) ∧ V = V') := by
  refine pm_MT.of (by decide) ⟨Nat.le_refl _, by decide⟩ (fun av V h => by rw [h.1]; exact (by decide : pm_words [(3, 0), (0, 0), (0, 0), (0, 0)] ≤ 4)) ?_
  rintro X av V0 hC - hR ⟨rfl, hV0⟩
  change pm_J X 0 [(0, (3, 90)), (1, (0, a1)), (2, (0, a2)), (3, (0, a3))] [] 118 V0
  refine pm_aload_n hC 0 (by decide) dX12_isTrial_0 rfl ?_
  have e1 : V0 90 15 = 0 := hV0.one 90 15 (by decide) (by decide) rfl
  refine pm_getf (v := 0) hC 90 fl_X12_216 rfl rfl (by decide) rfl e1 dX12_isTrial_1 ?_
  refine pm_if_eq (tgt := 72) hC ⟨by decide, by decide⟩ dX12_isTrial_4 (by decide) (fun c2 => ?_) (fun c2 => ?_)
  · skip
    refine pm_iconst (v := 0) hC dX12_isTrial_72 ?_
    exact pm_iret hC hR (pm_narZ (by omega)) ⟨0, rfl, ⟨by omega, by omega, by omega⟩, rfl⟩ dX12_isTrial_73
  · skip
    exfalso; omega
set_option maxHeartbeats 4000000 in
set_option maxRecDepth 100000 in
theorem A_X12_weighsIf (a1 a2 a3 a4 : Int) (h0 : (-2147483648) ≤ a1 ∧ a1 ≤ 2147483647) (h1 : (-2147483648) ≤ a2 ∧ a2 ≤ 2147483647) (h2 : (-2147483648) ≤ a3 ∧ a3 ≤ 2147483647) (h3 : (-2147483648) ≤ a4 ∧ a4 ≤ 2147483647) : pm_K 3 yX12_weighsIf cX12_weighsIf 5 (some .boolean) (fun av V => av = [(3, 90), (0, a1), (0, a2), (0, a3), (0, a4)] ∧ pm_oq pm_qA V) (fun _ V r V' => ∃ y, r = some (0, y) ∧ (0 ≤ y ∧ y ≤ 0) ∧ V = V') := by
  refine pm_MT.of (by decide) ⟨Nat.le_refl _, by decide⟩ (fun av V h => by rw [h.1]; exact (by decide : pm_words [(3, 0), (0, 0), (0, 0), (0, 0), (0, 0)] ≤ 5)) ?_
  rintro X av V0 hC - hR ⟨rfl, hV0⟩
  change pm_J X 0 [(0, (3, 90)), (1, (0, a1)), (2, (0, a2)), (3, (0, a3)), (4, (0, a4))] [] 118 V0
  refine pm_iload_n hC 1 dX12_weighsIf_0 rfl ?_
  refine pm_callS (as := [(0, a1)]) (st := []) hC (A_X12_isLaw a1 ⟨by omega, by omega⟩) lm_X12_370 ls_X12_isLaw (by decide) (by decide) rfl rfl (Nat.le_of_ble_eq_true rfl) ⟨Nat.le_refl _, Or.inl rfl⟩ dX12_weighsIf_1 ⟨rfl, hV0⟩ (fun r1 V2 hp3 => ?_)
  obtain ⟨y4, rfl, b5, rfl⟩ := hp3
  change pm_J X 4 [(0, (3, 90)), (1, (0, a1)), (2, (0, a2)), (3, (0, a3)), (4, (0, a4))] [(0, y4)] 118 V0
  refine pm_if_eq (tgt := 18) hC ⟨by omega, by omega⟩ dX12_weighsIf_4 (by decide) (fun c6 => ?_) (fun c6 => ?_)
  · skip
    refine pm_iconst (v := 0) hC dX12_weighsIf_18 ?_
    exact pm_iret hC hR (pm_narZ (by omega)) ⟨0, rfl, ⟨by omega, by omega⟩, rfl⟩ dX12_weighsIf_19
  · skip
    refine pm_aload_n hC 0 (by decide) dX12_weighsIf_7 rfl ?_
    refine pm_iload_n hC 2 dX12_weighsIf_8 rfl ?_
    refine pm_iload_n hC 3 dX12_weighsIf_9 rfl ?_
    refine pm_iload hC 4 dX12_weighsIf_10 rfl ?_
    refine pm_callV (ci := 12) (as := [(0, a2), (0, a3), (0, a4)]) (st := []) hC 90 (A_X12_isTrial a2 a3 a4 ⟨by omega, by omega⟩ ⟨by omega, by omega⟩ ⟨by omega, by omega⟩) lm_X12_373 li_X12_isTrial (by decide) (by decide) rfl rfl rfl (by decide) rfl rfl (Nat.le_of_ble_eq_true rfl) ⟨Nat.le_refl _, Or.inl rfl⟩ dX12_weighsIf_12 ⟨rfl, hV0⟩ (fun r7 V8 hp9 => ?_)
    obtain ⟨y10, rfl, b11, rfl⟩ := hp9
    change pm_J X 15 [(0, (3, 90)), (1, (0, a1)), (2, (0, a2)), (3, (0, a3)), (4, (0, a4))] [(0, y10)] 118 V0
    refine pm_if_ne (tgt := 20) hC ⟨by omega, by omega⟩ dX12_weighsIf_15 (by decide) (fun c12 => ?_) (fun c12 => ?_)
    · skip
      exfalso; omega
    · skip
      refine pm_iconst (v := 0) hC dX12_weighsIf_18 ?_
      exact pm_iret hC hR (pm_narZ (by omega)) ⟨0, rfl, ⟨by omega, by omega⟩, rfl⟩ dX12_weighsIf_19
set_option maxHeartbeats 4000000 in
set_option maxRecDepth 100000 in
theorem A_X12_weight (a1 a2 a3 a4 a5 : Int) (h0 : (-2147483648) ≤ a1 ∧ a1 ≤ 2147483647) (h1 : (-2147483648) ≤ a2 ∧ a2 ≤ 2147483647) (h2 : (-2147483648) ≤ a3 ∧ a3 ≤ 2147483647) (h3 : (-2147483648) ≤ a4 ∧ a4 ≤ 2147483647) (h4 : (-2147483648) ≤ a5 ∧ a5 ≤ 2147483647) : pm_K 4 yX12_weight cX12_weight 6 (some .int) (fun av V => av = [(3, 90), (0, a1), (0, a2), (0, a3), (0, a4), (0, a5)] ∧ pm_oq pm_qA V) (fun _ V r V' => ∃ y, r = some (0, y) ∧ ((-1) ≤ y ∧ y ≤ (-1)) ∧ V = V') := by
  refine pm_MT.of (by decide) ⟨Nat.le_refl _, by decide⟩ (fun av V h => by rw [h.1]; exact (by decide : pm_words [(3, 0), (0, 0), (0, 0), (0, 0), (0, 0), (0, 0)] ≤ 6)) ?_
  rintro X av V0 hC - hR ⟨rfl, hV0⟩
  change pm_J X 0 [(0, (3, 90)), (1, (0, a1)), (2, (0, a2)), (3, (0, a3)), (4, (0, a4)), (5, (0, a5))] [] 118 V0
  refine pm_aload_n hC 0 (by decide) dX12_weight_0 rfl ?_
  refine pm_iload_n hC 1 dX12_weight_1 rfl ?_
  refine pm_iload_n hC 2 dX12_weight_2 rfl ?_
  refine pm_iload_n hC 3 dX12_weight_3 rfl ?_
  refine pm_iload hC 4 dX12_weight_4 rfl ?_
  refine pm_callV (ci := 12) (as := [(0, a1), (0, a2), (0, a3), (0, a4)]) (st := []) hC 90 (A_X12_weighsIf a1 a2 a3 a4 ⟨by omega, by omega⟩ ⟨by omega, by omega⟩ ⟨by omega, by omega⟩ ⟨by omega, by omega⟩) lm_X12_383 li_X12_weighsIf (by decide) (by decide) rfl rfl rfl (by decide) rfl rfl (Nat.le_of_ble_eq_true rfl) ⟨Nat.le_refl _, Or.inl rfl⟩ dX12_weight_6 ⟨rfl, hV0⟩ (fun r1 V2 hp3 => ?_)
  obtain ⟨y4, rfl, b5, rfl⟩ := hp3
  change pm_J X 9 [(0, (3, 90)), (1, (0, a1)), (2, (0, a2)), (3, (0, a3)), (4, (0, a4)), (5, (0, a5))] [(0, y4)] 118 V0
  refine pm_if_eq (tgt := 33) hC ⟨by omega, by omega⟩ dX12_weight_9 (by decide) (fun c6 => ?_) (fun c6 => ?_)
  · skip
    refine pm_iconst (v := (-1)) hC dX12_weight_33 ?_
    exact pm_iret hC hR pm_nar0 ⟨(-1), rfl, ⟨by omega, by omega⟩, rfl⟩ dX12_weight_34
  · skip
    exfalso; omega
set_option maxHeartbeats 4000000 in
set_option maxRecDepth 100000 in
theorem A_X12_chance (a1 a2 a3 a4 a5 : Int) (h0 : (-2147483648) ≤ a1 ∧ a1 ≤ 2147483647) (h1 : (-2147483648) ≤ a2 ∧ a2 ≤ 2147483647) (h2 : (-2147483648) ≤ a3 ∧ a3 ≤ 2147483647) (h3 : (-2147483648) ≤ a4 ∧ a4 ≤ 2147483647) (h4 : (-2147483648) ≤ a5 ∧ a5 ≤ 2147483647) : pm_K 4 yX12_chance cX12_chance 6 (some .int) (fun av V => av = [(3, 90), (0, a1), (0, a2), (0, a3), (0, a4), (0, a5)] ∧ pm_oq pm_qA V) (fun _ V r V' => ∃ y, r = some (0, y) ∧ ((-1) ≤ y ∧ y ≤ (-1)) ∧ V = V') := by
  refine pm_MT.of (by decide) ⟨Nat.le_refl _, by decide⟩ (fun av V h => by rw [h.1]; exact (by decide : pm_words [(3, 0), (0, 0), (0, 0), (0, 0), (0, 0), (0, 0)] ≤ 6)) ?_
  rintro X av V0 hC - hR ⟨rfl, hV0⟩
  change pm_J X 0 [(0, (3, 90)), (1, (0, a1)), (2, (0, a2)), (3, (0, a3)), (4, (0, a4)), (5, (0, a5))] [] 118 V0
  refine pm_aload_n hC 0 (by decide) dX12_chance_0 rfl ?_
  refine pm_iload_n hC 1 dX12_chance_1 rfl ?_
  refine pm_iload_n hC 2 dX12_chance_2 rfl ?_
  refine pm_iload_n hC 3 dX12_chance_3 rfl ?_
  refine pm_iload hC 4 dX12_chance_4 rfl ?_
  refine pm_callV (ci := 12) (as := [(0, a1), (0, a2), (0, a3), (0, a4)]) (st := []) hC 90 (A_X12_weighsIf a1 a2 a3 a4 ⟨by omega, by omega⟩ ⟨by omega, by omega⟩ ⟨by omega, by omega⟩ ⟨by omega, by omega⟩) lm_X12_383 li_X12_weighsIf (by decide) (by decide) rfl rfl rfl (by decide) rfl rfl (Nat.le_of_ble_eq_true rfl) ⟨Nat.le_refl _, Or.inl rfl⟩ dX12_chance_6 ⟨rfl, hV0⟩ (fun r1 V2 hp3 => ?_)
  obtain ⟨y4, rfl, b5, rfl⟩ := hp3
  change pm_J X 9 [(0, (3, 90)), (1, (0, a1)), (2, (0, a2)), (3, (0, a3)), (4, (0, a4)), (5, (0, a5))] [(0, y4)] 118 V0
  refine pm_if_eq (tgt := 36) hC ⟨by omega, by omega⟩ dX12_chance_9 (by decide) (fun c6 => ?_) (fun c6 => ?_)
  · skip
    refine pm_iconst (v := (-1)) hC dX12_chance_36 ?_
    exact pm_iret hC hR pm_nar0 ⟨(-1), rfl, ⟨by omega, by omega⟩, rfl⟩ dX12_chance_37
  · skip
    exfalso; omega
set_option maxHeartbeats 4000000 in
set_option maxRecDepth 100000 in
theorem A_X12_kind (a1 a2 a3 a4 a5 : Int) (h0 : (-2147483648) ≤ a1 ∧ a1 ≤ 2147483647) (h1 : (-2147483648) ≤ a2 ∧ a2 ≤ 2147483647) (h2 : (-2147483648) ≤ a3 ∧ a3 ≤ 2147483647) (h3 : (-2147483648) ≤ a4 ∧ a4 ≤ 2147483647) (h4 : (-2147483648) ≤ a5 ∧ a5 ≤ 2147483647) : pm_K 4 yX12_kind cX12_kind 6 (some .int) (fun av V => av = [(3, 90), (0, a1), (0, a2), (0, a3), (0, a4), (0, a5)] ∧ pm_oq pm_qA V) (fun _ V r V' => ∃ y, r = some (0, y) ∧ ((-1) ≤ y ∧ y ≤ (-1)) ∧ V = V') := by
  refine pm_MT.of (by decide) ⟨Nat.le_refl _, by decide⟩ (fun av V h => by rw [h.1]; exact (by decide : pm_words [(3, 0), (0, 0), (0, 0), (0, 0), (0, 0), (0, 0)] ≤ 6)) ?_
  rintro X av V0 hC - hR ⟨rfl, hV0⟩
  change pm_J X 0 [(0, (3, 90)), (1, (0, a1)), (2, (0, a2)), (3, (0, a3)), (4, (0, a4)), (5, (0, a5))] [] 118 V0
  refine pm_aload_n hC 0 (by decide) dX12_kind_0 rfl ?_
  refine pm_iload_n hC 1 dX12_kind_1 rfl ?_
  refine pm_iload_n hC 2 dX12_kind_2 rfl ?_
  refine pm_iload_n hC 3 dX12_kind_3 rfl ?_
  refine pm_iload hC 4 dX12_kind_4 rfl ?_
  refine pm_callV (ci := 12) (as := [(0, a1), (0, a2), (0, a3), (0, a4)]) (st := []) hC 90 (A_X12_weighsIf a1 a2 a3 a4 ⟨by omega, by omega⟩ ⟨by omega, by omega⟩ ⟨by omega, by omega⟩ ⟨by omega, by omega⟩) lm_X12_383 li_X12_weighsIf (by decide) (by decide) rfl rfl rfl (by decide) rfl rfl (Nat.le_of_ble_eq_true rfl) ⟨Nat.le_refl _, Or.inl rfl⟩ dX12_kind_6 ⟨rfl, hV0⟩ (fun r1 V2 hp3 => ?_)
  obtain ⟨y4, rfl, b5, rfl⟩ := hp3
  change pm_J X 9 [(0, (3, 90)), (1, (0, a1)), (2, (0, a2)), (3, (0, a3)), (4, (0, a4)), (5, (0, a5))] [(0, y4)] 118 V0
  refine pm_if_eq (tgt := 31) hC ⟨by omega, by omega⟩ dX12_kind_9 (by decide) (fun c6 => ?_) (fun c6 => ?_)
  · skip
    refine pm_iconst (v := (-1)) hC dX12_kind_31 ?_
    exact pm_iret hC hR pm_nar0 ⟨(-1), rfl, ⟨by omega, by omega⟩, rfl⟩ dX12_kind_32
  · skip
    exfalso; omega
set_option maxHeartbeats 4000000 in
set_option maxRecDepth 100000 in
theorem A_X12_likely (a1 a2 a3 a4 : Int) (h0 : (-2147483648) ≤ a1 ∧ a1 ≤ 2147483647) (h1 : (-2147483648) ≤ a2 ∧ a2 ≤ 2147483647) (h2 : (-2147483648) ≤ a3 ∧ a3 ≤ 2147483647) (h3 : (-2147483648) ≤ a4 ∧ a4 ≤ 2147483647) : pm_K 4 yX12_likely cX12_likely 5 (some .int) (fun av V => av = [(3, 90), (0, a1), (0, a2), (0, a3), (0, a4)] ∧ pm_oq pm_qA V) (fun _ V r V' => ∃ y, r = some (0, y) ∧ ((-1) ≤ y ∧ y ≤ (-1)) ∧ V = V') := by
  refine pm_MT.of (by decide) ⟨Nat.le_refl _, by decide⟩ (fun av V h => by rw [h.1]; exact (by decide : pm_words [(3, 0), (0, 0), (0, 0), (0, 0), (0, 0)] ≤ 5)) ?_
  rintro X av V0 hC - hR ⟨rfl, hV0⟩
  change pm_J X 0 [(0, (3, 90)), (1, (0, a1)), (2, (0, a2)), (3, (0, a3)), (4, (0, a4))] [] 118 V0
  refine pm_aload_n hC 0 (by decide) dX12_likely_0 rfl ?_
  refine pm_iload_n hC 1 dX12_likely_1 rfl ?_
  refine pm_iload_n hC 2 dX12_likely_2 rfl ?_
  refine pm_iload_n hC 3 dX12_likely_3 rfl ?_
  refine pm_iload hC 4 dX12_likely_4 rfl ?_
  refine pm_callV (ci := 12) (as := [(0, a1), (0, a2), (0, a3), (0, a4)]) (st := []) hC 90 (A_X12_weighsIf a1 a2 a3 a4 ⟨by omega, by omega⟩ ⟨by omega, by omega⟩ ⟨by omega, by omega⟩ ⟨by omega, by omega⟩) lm_X12_383 li_X12_weighsIf (by decide) (by decide) rfl rfl rfl (by decide) rfl rfl (Nat.le_of_ble_eq_true rfl) ⟨Nat.le_refl _, Or.inl rfl⟩ dX12_likely_6 ⟨rfl, hV0⟩ (fun r1 V2 hp3 => ?_)
  obtain ⟨y4, rfl, b5, rfl⟩ := hp3
  change pm_J X 9 [(0, (3, 90)), (1, (0, a1)), (2, (0, a2)), (3, (0, a3)), (4, (0, a4))] [(0, y4)] 118 V0
  refine pm_if_eq (tgt := 19) hC ⟨by omega, by omega⟩ dX12_likely_9 (by decide) (fun c6 => ?_) (fun c6 => ?_)
  · skip
    refine pm_iconst (v := (-1)) hC dX12_likely_19 ?_
    exact pm_iret hC hR pm_nar0 ⟨(-1), rfl, ⟨by omega, by omega⟩, rfl⟩ dX12_likely_20
  · skip
    exfalso; omega
set_option maxHeartbeats 4000000 in
set_option maxRecDepth 100000 in
theorem A_X12_noticed (a1 a2 a3 : Int) (h0 : (-2147483648) ≤ a1 ∧ a1 ≤ 2147483647) (h1 : (-2147483648) ≤ a2 ∧ a2 ≤ 2147483647) (h2 : (-2147483648) ≤ a3 ∧ a3 ≤ 2147483647) : pm_K 4 yX12_noticed cX12_noticed 4 (some .int) (fun av V => av = [(3, 90), (0, a1), (0, a2), (0, a3)] ∧ pm_oq pm_qA V) (fun _ V r V' => ∃ y, r = some (0, y) ∧ ((-1) ≤ y ∧ y ≤ (-1)) ∧ V = V') := by
  refine pm_MT.of (by decide) ⟨Nat.le_refl _, by decide⟩ (fun av V h => by rw [h.1]; exact (by decide : pm_words [(3, 0), (0, 0), (0, 0), (0, 0)] ≤ 4)) ?_
  rintro X av V0 hC - hR ⟨rfl, hV0⟩
  change pm_J X 0 [(0, (3, 90)), (1, (0, a1)), (2, (0, a2)), (3, (0, a3))] [] 118 V0
  refine pm_aload_n hC 0 (by decide) dX12_noticed_0 rfl ?_
  refine pm_iconst (v := 4) hC dX12_noticed_1 ?_
  refine pm_iload_n hC 1 dX12_noticed_2 rfl ?_
  refine pm_iload_n hC 2 dX12_noticed_3 rfl ?_
  refine pm_iload_n hC 3 dX12_noticed_4 rfl ?_
  refine pm_callV (ci := 12) (as := [(0, 4), (0, a1), (0, a2), (0, a3)]) (st := []) hC 90 (A_X12_weighsIf 4 a1 a2 a3 ⟨by decide, by decide⟩ ⟨by omega, by omega⟩ ⟨by omega, by omega⟩ ⟨by omega, by omega⟩) lm_X12_383 li_X12_weighsIf (by decide) (by decide) rfl rfl rfl (by decide) rfl rfl (Nat.le_of_ble_eq_true rfl) ⟨Nat.le_refl _, Or.inl rfl⟩ dX12_noticed_5 ⟨rfl, hV0⟩ (fun r1 V2 hp3 => ?_)
  obtain ⟨y4, rfl, b5, rfl⟩ := hp3
  change pm_J X 8 [(0, (3, 90)), (1, (0, a1)), (2, (0, a2)), (3, (0, a3))] [(0, y4)] 118 V0
  refine pm_if_eq (tgt := 18) hC ⟨by omega, by omega⟩ dX12_noticed_8 (by decide) (fun c6 => ?_) (fun c6 => ?_)
  · skip
    refine pm_iconst (v := (-1)) hC dX12_noticed_18 ?_
    exact pm_iret hC hR pm_nar0 ⟨(-1), rfl, ⟨by omega, by omega⟩, rfl⟩ dX12_noticed_19
  · skip
    exfalso; omega
set_option maxHeartbeats 4000000 in
set_option maxRecDepth 100000 in
theorem A_X12_answer (a1 a2 a3 a4 : Int) (h0 : (-2147483648) ≤ a1 ∧ a1 ≤ 2147483647) (h1 : (-2147483648) ≤ a2 ∧ a2 ≤ 2147483647) (h2 : (-2147483648) ≤ a3 ∧ a3 ≤ 2147483647) (h3 : (-2147483648) ≤ a4 ∧ a4 ≤ 2147483647) : pm_K 2 yX12_answer cX12_answer 5 (some .int) (fun av V => av = [(3, 90), (0, a1), (0, a2), (0, a3), (0, a4)] ∧ pm_oq pm_qA V) (fun _ V r V' => ∃ y, r = some (0, y) ∧ ((-1) ≤ y ∧ y ≤ (-1)) ∧ V = V') := by
  refine pm_MT.of (by decide) ⟨Nat.le_refl _, by decide⟩ (fun av V h => by rw [h.1]; exact (by decide : pm_words [(3, 0), (0, 0), (0, 0), (0, 0), (0, 0)] ≤ 5)) ?_
  rintro X av V0 hC - hR ⟨rfl, hV0⟩
  change pm_J X 0 [(0, (3, 90)), (1, (0, a1)), (2, (0, a2)), (3, (0, a3)), (4, (0, a4))] [] 118 V0
  refine pm_aload_n hC 0 (by decide) dX12_answer_0 rfl ?_
  refine pm_iload_n hC 1 dX12_answer_1 rfl ?_
  refine pm_iload_n hC 2 dX12_answer_2 rfl ?_
  refine pm_iload_n hC 3 dX12_answer_3 rfl ?_
  refine pm_callV (ci := 12) (as := [(0, a1), (0, a2), (0, a3)]) (st := []) hC 90 (A_X12_isTrial a1 a2 a3 ⟨by omega, by omega⟩ ⟨by omega, by omega⟩ ⟨by omega, by omega⟩) lm_X12_373 li_X12_isTrial (by decide) (by decide) rfl rfl rfl (by decide) rfl rfl (Nat.le_of_ble_eq_true rfl) ⟨Nat.le_refl _, Or.inl rfl⟩ dX12_answer_4 ⟨rfl, hV0⟩ (fun r1 V2 hp3 => ?_)
  obtain ⟨y4, rfl, b5, rfl⟩ := hp3
  change pm_J X 7 [(0, (3, 90)), (1, (0, a1)), (2, (0, a2)), (3, (0, a3)), (4, (0, a4))] [(0, y4)] 118 V0
  refine pm_if_eq (tgt := 45) hC ⟨by omega, by omega⟩ dX12_answer_7 (by decide) (fun c6 => ?_) (fun c6 => ?_)
  · skip
    refine pm_iconst (v := (-1)) hC dX12_answer_45 ?_
    exact pm_iret hC hR pm_nar0 ⟨(-1), rfl, ⟨by omega, by omega⟩, rfl⟩ dX12_answer_46
  · skip
    exfalso; omega
set_option maxHeartbeats 4000000 in
set_option maxRecDepth 100000 in
theorem A_X12_undo  : pm_K 1 yX12_undo cX12_undo 1 (some .int) (fun av V => av = [(3, 90)] ∧ pm_oq pm_qA V) (fun _ V r V' => ∃ y, r = some (0, y) ∧ ((-1) ≤ y ∧ y ≤ (-1)) ∧ V = V') := by
  refine pm_MT.of (by decide) ⟨Nat.le_refl _, by decide⟩ (fun av V h => by rw [h.1]; exact (by decide : pm_words [(3, 0)] ≤ 1)) ?_
  rintro X av V0 hC - hR ⟨rfl, hV0⟩
  change pm_J X 0 [(0, (3, 90))] [] 118 V0
  refine pm_aload_n hC 0 (by decide) dX12_undo_0 rfl ?_
  have e1 : V0 90 25 = 0 := hV0.one 90 25 (by decide) (by decide) rfl
  refine pm_getf (v := 0) hC 90 fl_X12_235 rfl rfl (by decide) rfl e1 dX12_undo_1 ?_
  refine pm_if_ne (tgt := 9) hC ⟨by decide, by decide⟩ dX12_undo_4 (by decide) (fun c2 => ?_) (fun c2 => ?_)
  · skip
    exfalso; omega
  · skip
    refine pm_iconst (v := (-1)) hC dX12_undo_7 ?_
    exact pm_iret hC hR pm_nar0 ⟨(-1), rfl, ⟨by omega, by omega⟩, rfl⟩ dX12_undo_8
set_option maxHeartbeats 4000000 in
set_option maxRecDepth 100000 in
theorem A_X12_of (a1 a2 : Int) (h0 : (-2147483648) ≤ a1 ∧ a1 ≤ 2147483647) (h1 : (-2147483648) ≤ a2 ∧ a2 ≤ 2147483647) : pm_K 2 yX12_of cX12_of 3 (some .int) (fun av V => av = [(3, 90), (0, a1), (0, a2)] ∧ pm_oq pm_qA V) (fun _ V r V' => ∃ y, r = some (0, y) ∧ ((-2147483648) ≤ y ∧ y ≤ (-2147483648)) ∧ V = V') := by
  refine pm_MT.of (by decide) ⟨Nat.le_refl _, by decide⟩ (fun av V h => by rw [h.1]; exact (by decide : pm_words [(3, 0), (0, 0), (0, 0)] ≤ 3)) ?_
  rintro X av V0 hC - hR ⟨rfl, hV0⟩
  change pm_J X 0 [(0, (3, 90)), (1, (0, a1)), (2, (0, a2))] [] 118 V0
  refine pm_iload_n hC 1 dX12_of_0 rfl ?_
  refine pm_iconst (v := 0) hC dX12_of_1 ?_
  refine pm_aload_n hC 0 (by decide) dX12_of_2 rfl ?_
  have e1 : V0 90 25 = 0 := hV0.one 90 25 (by decide) (by decide) rfl
  refine pm_getf (v := 0) hC 90 fl_X12_235 rfl rfl (by decide) rfl e1 dX12_of_3 ?_
  refine pm_iconst (v := 1) hC dX12_of_6 ?_
  refine pm_isub hC dX12_of_7 ?_
  change pm_J X 8 [(0, (3, 90)), (1, (0, a1)), (2, (0, a2))] [(0, (-1)), (0, 0), (0, a1)] 118 V0
  refine pm_callS (as := [(0, a1), (0, 0), (0, (-1))]) (st := []) hC (A_X12_in a1 0 (-1) ⟨by omega, by omega⟩ ⟨by decide, by decide⟩ ⟨by decide, by decide⟩) lm_X12_98 ls_X12_in (by decide) (by decide) rfl rfl (Nat.le_of_ble_eq_true rfl) ⟨Nat.le_refl _, Or.inl rfl⟩ dX12_of_8 ⟨rfl, hV0⟩ (fun r2 V3 hp4 => ?_)
  obtain ⟨y5, rfl, b6, rfl⟩ := hp4
  change pm_J X 11 [(0, (3, 90)), (1, (0, a1)), (2, (0, a2))] [(0, y5)] 118 V0
  refine pm_if_eq (tgt := 23) hC ⟨by omega, by omega⟩ dX12_of_11 (by decide) (fun c7 => ?_) (fun c7 => ?_)
  · skip
    refine pm_ldcw (v := (-2147483648)) hC 7000 dX12_of_23 (by decide +kernel) ?_
    exact pm_iret hC hR pm_nar0 ⟨(-2147483648), rfl, ⟨by omega, by omega⟩, rfl⟩ dX12_of_26
  · skip
    exfalso; omega
set_option maxHeartbeats 4000000 in
set_option maxRecDepth 100000 in
theorem A_X12_more (a1 a2 a3 : Int) (h0 : (-2147483648) ≤ a1 ∧ a1 ≤ 2147483647) (h1 : (-2147483648) ≤ a2 ∧ a2 ≤ 2147483647) (h2 : (-2147483648) ≤ a3 ∧ a3 ≤ 2147483647) : pm_K 1 yX12_more cX12_more 5 (some .int) (fun av V => av = [(3, 90), (0, a1), (0, a2), (0, a3)] ∧ pm_oq pm_qA V) (fun _ V r V' => ∃ y, r = some (0, y) ∧ ((-1) ≤ y ∧ y ≤ (-1)) ∧ V = V') := by
  refine pm_MT.of (by decide) ⟨Nat.le_refl _, by decide⟩ (fun av V h => by rw [h.1]; exact (by decide : pm_words [(3, 0), (0, 0), (0, 0), (0, 0)] ≤ 5)) ?_
  rintro X av V0 hC - hR ⟨rfl, hV0⟩
  change pm_J X 0 [(0, (3, 90)), (1, (0, a1)), (2, (0, a2)), (3, (0, a3))] [] 118 V0
  refine pm_aload_n hC 0 (by decide) dX12_more_0 rfl ?_
  have e1 : V0 90 15 = 0 := hV0.one 90 15 (by decide) (by decide) rfl
  refine pm_getf (v := 0) hC 90 fl_X12_216 rfl rfl (by decide) rfl e1 dX12_more_1 ?_
  refine pm_if_eq (tgt := 34) hC ⟨by decide, by decide⟩ dX12_more_4 (by decide) (fun c2 => ?_) (fun c2 => ?_)
  · skip
    refine pm_iconst (v := (-1)) hC dX12_more_34 ?_
    exact pm_iret hC hR pm_nar0 ⟨(-1), rfl, ⟨by omega, by omega⟩, rfl⟩ dX12_more_35
  · skip
    exfalso; omega
set_option maxHeartbeats 4000000 in
set_option maxRecDepth 100000 in
theorem A_X12_best (a1 : Int) (h0 : (-2147483648) ≤ a1 ∧ a1 ≤ 2147483647) : pm_K 1 yX12_best cX12_best 4 (some .int) (fun av V => av = [(3, 90), (0, a1)] ∧ pm_oq pm_qA V) (fun _ V r V' => ∃ y, r = some (0, y) ∧ ((-1) ≤ y ∧ y ≤ (-1)) ∧ V = V') := by
  refine pm_MT.of (by decide) ⟨Nat.le_refl _, by decide⟩ (fun av V h => by rw [h.1]; exact (by decide : pm_words [(3, 0), (0, 0)] ≤ 4)) ?_
  rintro X av V0 hC - hR ⟨rfl, hV0⟩
  change pm_J X 0 [(0, (3, 90)), (1, (0, a1))] [] 118 V0
  refine pm_aload_n hC 0 (by decide) dX12_best_0 rfl ?_
  have e1 : V0 90 15 = 0 := hV0.one 90 15 (by decide) (by decide) rfl
  refine pm_getf (v := 0) hC 90 fl_X12_216 rfl rfl (by decide) rfl e1 dX12_best_1 ?_
  refine pm_if_eq (tgt := 20) hC ⟨by decide, by decide⟩ dX12_best_4 (by decide) (fun c2 => ?_) (fun c2 => ?_)
  · skip
    refine pm_iconst (v := (-1)) hC dX12_best_20 ?_
    exact pm_iret hC hR pm_nar0 ⟨(-1), rfl, ⟨by omega, by omega⟩, rfl⟩ dX12_best_21
  · skip
    exfalso; omega
set_option maxHeartbeats 4000000 in
set_option maxRecDepth 100000 in
theorem A_X12_own (a1 a2 : Int) (h0 : (-2147483648) ≤ a1 ∧ a1 ≤ 2147483647) (h1 : (-2147483648) ≤ a2 ∧ a2 ≤ 2147483647) : pm_K 2 yX12_own cX12_own 12 (some .int) (fun av V => av = [(3, 90), (0, a1), (0, a2)] ∧ pm_oq pm_qA V) (fun _ V r V' => ∃ y, r = some (0, y) ∧ ((-2147483648) ≤ y ∧ y ≤ (-2147483648)) ∧ V = V') := by
  refine pm_MT.of (by decide) ⟨Nat.le_refl _, by decide⟩ (fun av V h => by rw [h.1]; exact (by decide : pm_words [(3, 0), (0, 0), (0, 0)] ≤ 12)) ?_
  rintro X av V0 hC - hR ⟨rfl, hV0⟩
  change pm_J X 0 [(0, (3, 90)), (1, (0, a1)), (2, (0, a2))] [] 118 V0
  refine pm_aload_n hC 0 (by decide) dX12_own_0 rfl ?_
  refine pm_iload_n hC 1 dX12_own_1 rfl ?_
  refine pm_callV (ci := 12) (as := [(0, a1)]) (st := []) hC 90 (A_X12_isPerson a1 ⟨by omega, by omega⟩) lm_X12_302 li_X12_isPerson (by decide) (by decide) rfl rfl rfl (by decide) rfl rfl (Nat.le_of_ble_eq_true rfl) ⟨Nat.le_refl _, Or.inl rfl⟩ dX12_own_2 ⟨rfl, hV0⟩ (fun r1 V2 hp3 => ?_)
  obtain ⟨y4, rfl, b5, rfl⟩ := hp3
  change pm_J X 5 [(0, (3, 90)), (1, (0, a1)), (2, (0, a2))] [(0, y4)] 118 V0
  refine pm_if_eq (tgt := 17) hC ⟨by omega, by omega⟩ dX12_own_5 (by decide) (fun c6 => ?_) (fun c6 => ?_)
  · skip
    refine pm_ldcw (v := (-2147483648)) hC 7000 dX12_own_17 (by decide +kernel) ?_
    exact pm_iret hC hR pm_nar0 ⟨(-2147483648), rfl, ⟨by omega, by omega⟩, rfl⟩ dX12_own_20
  · skip
    exfalso; omega
set_option maxHeartbeats 4000000 in
set_option maxRecDepth 100000 in
theorem A_X12_share (a1 a2 : Int) (h0 : (-2147483648) ≤ a1 ∧ a1 ≤ 2147483647) (h1 : (-2147483648) ≤ a2 ∧ a2 ≤ 2147483647) : pm_K 2 yX12_share cX12_share 6 (some .int) (fun av V => av = [(3, 90), (0, a1), (0, a2)] ∧ pm_oq pm_qA V) (fun _ V r V' => ∃ y, r = some (0, y) ∧ ((-1) ≤ y ∧ y ≤ (-1)) ∧ V = V') := by
  refine pm_MT.of (by decide) ⟨Nat.le_refl _, by decide⟩ (fun av V h => by rw [h.1]; exact (by decide : pm_words [(3, 0), (0, 0), (0, 0)] ≤ 6)) ?_
  rintro X av V0 hC - hR ⟨rfl, hV0⟩
  change pm_J X 0 [(0, (3, 90)), (1, (0, a1)), (2, (0, a2))] [] 118 V0
  refine pm_iload_n hC 1 dX12_share_0 rfl ?_
  refine pm_iconst (v := (-1)) hC dX12_share_1 ?_
  refine pm_iconst (v := 3) hC dX12_share_2 ?_
  refine pm_callS (as := [(0, a1), (0, (-1)), (0, 3)]) (st := []) hC (A_X12_in a1 (-1) 3 ⟨by omega, by omega⟩ ⟨by decide, by decide⟩ ⟨by decide, by decide⟩) lm_X12_98 ls_X12_in (by decide) (by decide) rfl rfl (Nat.le_of_ble_eq_true rfl) ⟨Nat.le_refl _, Or.inl rfl⟩ dX12_share_3 ⟨rfl, hV0⟩ (fun r1 V2 hp3 => ?_)
  obtain ⟨y4, rfl, b5, rfl⟩ := hp3
  change pm_J X 6 [(0, (3, 90)), (1, (0, a1)), (2, (0, a2))] [(0, y4)] 118 V0
  refine pm_if_eq (tgt := 18) hC ⟨by omega, by omega⟩ dX12_share_6 (by decide) (fun c6 => ?_) (fun c6 => ?_)
  · skip
    refine pm_iconst (v := (-1)) hC dX12_share_18 ?_
    exact pm_iret hC hR pm_nar0 ⟨(-1), rfl, ⟨by omega, by omega⟩, rfl⟩ dX12_share_19
  · skip
    refine pm_iload_n hC 2 dX12_share_9 rfl ?_
    refine pm_iconst (v := 0) hC dX12_share_10 ?_
    refine pm_iconst (v := 4) hC dX12_share_11 ?_
    refine pm_callS (as := [(0, a2), (0, 0), (0, 4)]) (st := []) hC (A_X12_in a2 0 4 ⟨by omega, by omega⟩ ⟨by decide, by decide⟩ ⟨by decide, by decide⟩) lm_X12_98 ls_X12_in (by decide) (by decide) rfl rfl (Nat.le_of_ble_eq_true rfl) ⟨Nat.le_refl _, Or.inl rfl⟩ dX12_share_12 ⟨rfl, hV0⟩ (fun r7 V8 hp9 => ?_)
    obtain ⟨y10, rfl, b11, rfl⟩ := hp9
    change pm_J X 15 [(0, (3, 90)), (1, (0, a1)), (2, (0, a2))] [(0, y10)] 118 V0
    refine pm_if_ne (tgt := 20) hC ⟨by omega, by omega⟩ dX12_share_15 (by decide) (fun c12 => ?_) (fun c12 => ?_)
    · skip
      refine pm_iconst (v := 0) hC dX12_share_20 ?_
      refine pm_istore_n (lv' := [(3, (0, 0)), (0, (3, 90)), (1, (0, a1)), (2, (0, a2))]) hC dX12_share_21 (by decide) rfl ?_
      refine pm_iconst (v := 0) hC dX12_share_22 ?_
      refine pm_istore (lv' := [(4, (0, 0)), (3, (0, 0)), (0, (3, 90)), (1, (0, a1)), (2, (0, a2))]) hC dX12_share_23 (by decide) rfl ?_
      refine pm_iconst (v := 0) hC dX12_share_25 ?_
      refine pm_istore (lv' := [(5, (0, 0)), (4, (0, 0)), (3, (0, 0)), (0, (3, 90)), (1, (0, a1)), (2, (0, a2))]) hC dX12_share_26 (by decide) rfl ?_
      have L19 : ∀ (N21 : Nat) (x13 : Int) (x15 : Int) (x17 : Int), (0 ≤ x13 ∧ x13 ≤ 0) → (0 ≤ x15 ∧ x15 ≤ 0) → (0 ≤ x17 ∧ x17 ≤ 0) → (Int.toNat (0 - x13)) = N21 → pm_J X 28 [(0, (3, 90)), (1, (0, a1)), (2, (0, a2)), (3, (0, x13)), (4, (0, x15)), (5, (0, x17))] [] 118 V0 := by
        intro N21
        induction N21 using Nat.strongRecOn with
        | _ N21 ih22 =>
        intro x13 x15 x17 b14 b16 b18 hm20
        refine pm_iload hC 5 dX12_share_28 rfl ?_
        refine pm_aload_n hC 0 (by decide) dX12_share_30 rfl ?_
        have e23 : V0 90 25 = 0 := hV0.one 90 25 (by decide) (by decide) rfl
        refine pm_getf (v := 0) hC 90 fl_X12_235 rfl rfl (by decide) rfl e23 dX12_share_31 ?_
        refine pm_icmp_ge (tgt := 117) hC ⟨by omega, by omega⟩ ⟨by decide, by decide⟩ dX12_share_34 (by decide) (fun c24 => ?_) (fun c24 => ?_)
        · skip
          refine pm_iload_n hC 3 dX12_share_117 rfl ?_
          refine pm_if_ne (tgt := 125) hC ⟨by omega, by omega⟩ dX12_share_118 (by decide) (fun c25 => ?_) (fun c25 => ?_)
          · skip
            exfalso; omega
          · skip
            refine pm_iconst (v := (-1)) hC dX12_share_121 ?_
            refine pm_goto (tgt := 133) hC dX12_share_122 (by decide) ?_
            exact pm_iret hC hR pm_nar0 ⟨(-1), rfl, ⟨by omega, by omega⟩, rfl⟩ dX12_share_133
        · skip
          exfalso; omega
      refine pm_lvsub [3, 4, 5, 2, 1, 0] (lv' := [(0, (3, 90)), (1, (0, a1)), (2, (0, a2)), (3, (0, 0)), (4, (0, 0)), (5, (0, 0))]) rfl ?_
      exact L19 _ 0 0 0 ⟨by decide, by decide⟩ ⟨by decide, by decide⟩ ⟨by decide, by decide⟩ rfl
    · skip
      refine pm_iconst (v := (-1)) hC dX12_share_18 ?_
      exact pm_iret hC hR pm_nar0 ⟨(-1), rfl, ⟨by omega, by omega⟩, rfl⟩ dX12_share_19
set_option maxHeartbeats 4000000 in
set_option maxRecDepth 100000 in
theorem A_X12_foretold (a1 a2 a3 : Int) (h0 : (-2147483648) ≤ a1 ∧ a1 ≤ 2147483647) (h1 : (-2147483648) ≤ a2 ∧ a2 ≤ 2147483647) (h2 : (-2147483648) ≤ a3 ∧ a3 ≤ 2147483647) : pm_K 3 yX12_foretold cX12_foretold 7 (some .int) (fun av V => av = [(3, 90), (0, a1), (0, a2), (0, a3)] ∧ pm_oq pm_qA V) (fun _ V r V' => ∃ y, r = some (0, y) ∧ ((-1) ≤ y ∧ y ≤ (-1)) ∧ V = V') := by
  refine pm_MT.of (by decide) ⟨Nat.le_refl _, by decide⟩ (fun av V h => by rw [h.1]; exact (by decide : pm_words [(3, 0), (0, 0), (0, 0), (0, 0)] ≤ 7)) ?_
  rintro X av V0 hC - hR ⟨rfl, hV0⟩
  change pm_J X 0 [(0, (3, 90)), (1, (0, a1)), (2, (0, a2)), (3, (0, a3))] [] 118 V0
  refine pm_iload_n hC 1 dX12_foretold_0 rfl ?_
  refine pm_callS (as := [(0, a1)]) (st := []) hC (A_X12_isLaw a1 ⟨by omega, by omega⟩) lm_X12_370 ls_X12_isLaw (by decide) (by decide) rfl rfl (Nat.le_of_ble_eq_true rfl) ⟨Nat.le_refl _, Or.inl rfl⟩ dX12_foretold_1 ⟨rfl, hV0⟩ (fun r1 V2 hp3 => ?_)
  obtain ⟨y4, rfl, b5, rfl⟩ := hp3
  change pm_J X 4 [(0, (3, 90)), (1, (0, a1)), (2, (0, a2)), (3, (0, a3))] [(0, y4)] 118 V0
  refine pm_if_eq (tgt := 25) hC ⟨by omega, by omega⟩ dX12_foretold_4 (by decide) (fun c6 => ?_) (fun c6 => ?_)
  · skip
    refine pm_iconst (v := (-1)) hC dX12_foretold_25 ?_
    exact pm_iret hC hR pm_nar0 ⟨(-1), rfl, ⟨by omega, by omega⟩, rfl⟩ dX12_foretold_26
  · skip
    refine pm_iload_n hC 2 dX12_foretold_7 rfl ?_
    refine pm_iconst (v := (-1)) hC dX12_foretold_8 ?_
    refine pm_iconst (v := 3) hC dX12_foretold_9 ?_
    refine pm_callS (as := [(0, a2), (0, (-1)), (0, 3)]) (st := []) hC (A_X12_in a2 (-1) 3 ⟨by omega, by omega⟩ ⟨by decide, by decide⟩ ⟨by decide, by decide⟩) lm_X12_98 ls_X12_in (by decide) (by decide) rfl rfl (Nat.le_of_ble_eq_true rfl) ⟨Nat.le_refl _, Or.inl rfl⟩ dX12_foretold_10 ⟨rfl, hV0⟩ (fun r7 V8 hp9 => ?_)
    obtain ⟨y10, rfl, b11, rfl⟩ := hp9
    change pm_J X 13 [(0, (3, 90)), (1, (0, a1)), (2, (0, a2)), (3, (0, a3))] [(0, y10)] 118 V0
    refine pm_if_eq (tgt := 25) hC ⟨by omega, by omega⟩ dX12_foretold_13 (by decide) (fun c12 => ?_) (fun c12 => ?_)
    · skip
      refine pm_iconst (v := (-1)) hC dX12_foretold_25 ?_
      exact pm_iret hC hR pm_nar0 ⟨(-1), rfl, ⟨by omega, by omega⟩, rfl⟩ dX12_foretold_26
    · skip
      refine pm_iload_n hC 3 dX12_foretold_16 rfl ?_
      refine pm_iconst (v := 0) hC dX12_foretold_17 ?_
      refine pm_iconst (v := 4) hC dX12_foretold_18 ?_
      refine pm_callS (as := [(0, a3), (0, 0), (0, 4)]) (st := []) hC (A_X12_in a3 0 4 ⟨by omega, by omega⟩ ⟨by decide, by decide⟩ ⟨by decide, by decide⟩) lm_X12_98 ls_X12_in (by decide) (by decide) rfl rfl (Nat.le_of_ble_eq_true rfl) ⟨Nat.le_refl _, Or.inl rfl⟩ dX12_foretold_19 ⟨rfl, hV0⟩ (fun r13 V14 hp15 => ?_)
      obtain ⟨y16, rfl, b17, rfl⟩ := hp15
      change pm_J X 22 [(0, (3, 90)), (1, (0, a1)), (2, (0, a2)), (3, (0, a3))] [(0, y16)] 118 V0
      refine pm_if_ne (tgt := 27) hC ⟨by omega, by omega⟩ dX12_foretold_22 (by decide) (fun c18 => ?_) (fun c18 => ?_)
      · skip
        refine pm_iconst (v := 0) hC dX12_foretold_27 ?_
        refine pm_istore (lv' := [(4, (0, 0)), (0, (3, 90)), (1, (0, a1)), (2, (0, a2)), (3, (0, a3))]) hC dX12_foretold_28 (by decide) rfl ?_
        refine pm_iconst (v := 0) hC dX12_foretold_30 ?_
        refine pm_istore (lv' := [(5, (0, 0)), (4, (0, 0)), (0, (3, 90)), (1, (0, a1)), (2, (0, a2)), (3, (0, a3))]) hC dX12_foretold_31 (by decide) rfl ?_
        refine pm_iconst (v := 0) hC dX12_foretold_33 ?_
        refine pm_istore (lv' := [(6, (0, 0)), (5, (0, 0)), (4, (0, 0)), (0, (3, 90)), (1, (0, a1)), (2, (0, a2)), (3, (0, a3))]) hC dX12_foretold_34 (by decide) rfl ?_
        have L25 : ∀ (N27 : Nat) (x19 : Int) (x21 : Int) (x23 : Int), (0 ≤ x19 ∧ x19 ≤ 0) → (0 ≤ x21 ∧ x21 ≤ 0) → (0 ≤ x23 ∧ x23 ≤ 0) → (Int.toNat (0 - x19)) = N27 → pm_J X 36 [(0, (3, 90)), (1, (0, a1)), (2, (0, a2)), (3, (0, a3)), (4, (0, x19)), (5, (0, x21)), (6, (0, x23))] [] 118 V0 := by
          intro N27
          induction N27 using Nat.strongRecOn with
          | _ N27 ih28 =>
          intro x19 x21 x23 b20 b22 b24 hm26
          refine pm_iload hC 6 dX12_foretold_36 rfl ?_
          refine pm_aload_n hC 0 (by decide) dX12_foretold_38 rfl ?_
          have e29 : V0 90 25 = 0 := hV0.one 90 25 (by decide) (by decide) rfl
          refine pm_getf (v := 0) hC 90 fl_X12_235 rfl rfl (by decide) rfl e29 dX12_foretold_39 ?_
          refine pm_icmp_ge (tgt := 100) hC ⟨by omega, by omega⟩ ⟨by decide, by decide⟩ dX12_foretold_42 (by decide) (fun c30 => ?_) (fun c30 => ?_)
          · skip
            refine pm_iload hC 4 dX12_foretold_100 rfl ?_
            refine pm_if_ne (tgt := 109) hC ⟨by omega, by omega⟩ dX12_foretold_102 (by decide) (fun c31 => ?_) (fun c31 => ?_)
            · skip
              exfalso; omega
            · skip
              refine pm_iconst (v := (-1)) hC dX12_foretold_105 ?_
              refine pm_goto (tgt := 114) hC dX12_foretold_106 (by decide) ?_
              exact pm_iret hC hR pm_nar0 ⟨(-1), rfl, ⟨by omega, by omega⟩, rfl⟩ dX12_foretold_114
          · skip
            exfalso; omega
        refine pm_lvsub [3, 4, 5, 6, 2, 1, 0] (lv' := [(0, (3, 90)), (1, (0, a1)), (2, (0, a2)), (3, (0, a3)), (4, (0, 0)), (5, (0, 0)), (6, (0, 0))]) rfl ?_
        exact L25 _ 0 0 0 ⟨by decide, by decide⟩ ⟨by decide, by decide⟩ ⟨by decide, by decide⟩ rfl
      · skip
        refine pm_iconst (v := (-1)) hC dX12_foretold_25 ?_
        exact pm_iret hC hR pm_nar0 ⟨(-1), rfl, ⟨by omega, by omega⟩, rfl⟩ dX12_foretold_26
set_option maxHeartbeats 4000000 in
set_option maxRecDepth 100000 in
theorem A_X12_pairs (a1 a2 a3 a4 a5 : Int) (h0 : (-2147483648) ≤ a1 ∧ a1 ≤ 2147483647) (h1 : (-2147483648) ≤ a2 ∧ a2 ≤ 2147483647) (h2 : (-2147483648) ≤ a3 ∧ a3 ≤ 2147483647) (h3 : (-2147483648) ≤ a4 ∧ a4 ≤ 2147483647) (h4 : (-2147483648) ≤ a5 ∧ a5 ≤ 2147483647) : pm_K 3 yX12_pairs cX12_pairs 9 (some .int) (fun av V => av = [(3, 90), (0, a1), (0, a2), (0, a3), (0, a4), (0, a5)] ∧ pm_oq pm_qA V) (fun _ V r V' => ∃ y, r = some (0, y) ∧ ((-1) ≤ y ∧ y ≤ (-1)) ∧ V = V') := by
  refine pm_MT.of (by decide) ⟨Nat.le_refl _, by decide⟩ (fun av V h => by rw [h.1]; exact (by decide : pm_words [(3, 0), (0, 0), (0, 0), (0, 0), (0, 0), (0, 0)] ≤ 9)) ?_
  rintro X av V0 hC - hR ⟨rfl, hV0⟩
  change pm_J X 0 [(0, (3, 90)), (1, (0, a1)), (2, (0, a2)), (3, (0, a3)), (4, (0, a4)), (5, (0, a5))] [] 118 V0
  refine pm_iload_n hC 1 dX12_pairs_0 rfl ?_
  refine pm_if_lt (tgt := 44) hC ⟨by omega, by omega⟩ dX12_pairs_1 (by decide) (fun c1 => ?_) (fun c1 => ?_)
  · skip
    refine pm_iconst (v := (-1)) hC dX12_pairs_44 ?_
    exact pm_iret hC hR pm_nar0 ⟨(-1), rfl, ⟨by omega, by omega⟩, rfl⟩ dX12_pairs_45
  · skip
    refine pm_iload_n hC 1 dX12_pairs_4 rfl ?_
    refine pm_bipush (v := 10) hC dX12_pairs_5 (by decide) ?_
    refine pm_idiv hC ⟨by omega, by omega, by omega⟩ ⟨by decide, by decide, by decide⟩ dX12_pairs_7 ?_
    refine pm_iconst (v := 3) hC dX12_pairs_8 ?_
    refine pm_icmp_gt (tgt := 44) hC ⟨by omega, by omega⟩ ⟨by decide, by decide⟩ dX12_pairs_9 (by decide) (fun c2 => ?_) (fun c2 => ?_)
    · skip
      refine pm_iconst (v := (-1)) hC dX12_pairs_44 ?_
      exact pm_iret hC hR pm_nar0 ⟨(-1), rfl, ⟨by omega, by omega⟩, rfl⟩ dX12_pairs_45
    · skip
      refine pm_iload_n hC 1 dX12_pairs_12 rfl ?_
      refine pm_bipush (v := 10) hC dX12_pairs_13 (by decide) ?_
      refine pm_irem hC ⟨by omega, by omega, by omega⟩ ⟨by decide, by decide, by decide⟩ dX12_pairs_15 ?_
      refine pm_callS (as := [(0, (a1 % 10))]) (st := []) hC (A_X12_isLaw (a1 % 10) ⟨by omega, by omega⟩) lm_X12_370 ls_X12_isLaw (by decide) (by decide) rfl rfl (Nat.le_of_ble_eq_true rfl) ⟨Nat.le_refl _, Or.inl rfl⟩ dX12_pairs_16 ⟨rfl, hV0⟩ (fun r3 V4 hp5 => ?_)
      obtain ⟨y6, rfl, b7, rfl⟩ := hp5
      change pm_J X 19 [(0, (3, 90)), (1, (0, a1)), (2, (0, a2)), (3, (0, a3)), (4, (0, a4)), (5, (0, a5))] [(0, y6)] 118 V0
      refine pm_if_eq (tgt := 44) hC ⟨by omega, by omega⟩ dX12_pairs_19 (by decide) (fun c8 => ?_) (fun c8 => ?_)
      · skip
        refine pm_iconst (v := (-1)) hC dX12_pairs_44 ?_
        exact pm_iret hC hR pm_nar0 ⟨(-1), rfl, ⟨by omega, by omega⟩, rfl⟩ dX12_pairs_45
      · skip
        refine pm_aload_n hC 0 (by decide) dX12_pairs_22 rfl ?_
        refine pm_iload_n hC 2 dX12_pairs_23 rfl ?_
        refine pm_callV (ci := 12) (as := [(0, a2)]) (st := []) hC 90 (A_X12_isPerson a2 ⟨by omega, by omega⟩) lm_X12_302 li_X12_isPerson (by decide) (by decide) rfl rfl rfl (by decide) rfl rfl (Nat.le_of_ble_eq_true rfl) ⟨Nat.le_refl _, Or.inl rfl⟩ dX12_pairs_24 ⟨rfl, hV0⟩ (fun r9 V10 hp11 => ?_)
        obtain ⟨y12, rfl, b13, rfl⟩ := hp11
        change pm_J X 27 [(0, (3, 90)), (1, (0, a1)), (2, (0, a2)), (3, (0, a3)), (4, (0, a4)), (5, (0, a5))] [(0, y12)] 118 V0
        refine pm_if_eq (tgt := 44) hC ⟨by omega, by omega⟩ dX12_pairs_27 (by decide) (fun c14 => ?_) (fun c14 => ?_)
        · skip
          refine pm_iconst (v := (-1)) hC dX12_pairs_44 ?_
          exact pm_iret hC hR pm_nar0 ⟨(-1), rfl, ⟨by omega, by omega⟩, rfl⟩ dX12_pairs_45
        · skip
          exfalso; omega
set_option maxHeartbeats 4000000 in
set_option maxRecDepth 100000 in
theorem A_X12_hump (a1 a2 a3 : Int) (h0 : (-2147483648) ≤ a1 ∧ a1 ≤ 2147483647) (h1 : (-2147483648) ≤ a2 ∧ a2 ≤ 2147483647) (h2 : (-2147483648) ≤ a3 ∧ a3 ≤ 2147483647) : pm_K 2 yX12_hump cX12_hump 6 (some .int) (fun av V => av = [(3, 90), (0, a1), (0, a2), (0, a3)] ∧ pm_oq pm_qA V) (fun _ V r V' => ∃ y, r = some (0, y) ∧ ((-1) ≤ y ∧ y ≤ (-1)) ∧ V = V') := by
  refine pm_MT.of (by decide) ⟨Nat.le_refl _, by decide⟩ (fun av V h => by rw [h.1]; exact (by decide : pm_words [(3, 0), (0, 0), (0, 0), (0, 0)] ≤ 6)) ?_
  rintro X av V0 hC - hR ⟨rfl, hV0⟩
  change pm_J X 0 [(0, (3, 90)), (1, (0, a1)), (2, (0, a2)), (3, (0, a3))] [] 118 V0
  refine pm_aload_n hC 0 (by decide) dX12_hump_0 rfl ?_
  refine pm_iload_n hC 1 dX12_hump_1 rfl ?_
  refine pm_iload_n hC 2 dX12_hump_2 rfl ?_
  refine pm_iconst (v := 0) hC dX12_hump_3 ?_
  refine pm_callV (ci := 12) (as := [(0, a1), (0, a2), (0, 0)]) (st := []) hC 90 (A_X12_isTrial a1 a2 0 ⟨by omega, by omega⟩ ⟨by omega, by omega⟩ ⟨by decide, by decide⟩) lm_X12_373 li_X12_isTrial (by decide) (by decide) rfl rfl rfl (by decide) rfl rfl (Nat.le_of_ble_eq_true rfl) ⟨Nat.le_refl _, Or.inl rfl⟩ dX12_hump_4 ⟨rfl, hV0⟩ (fun r1 V2 hp3 => ?_)
  obtain ⟨y4, rfl, b5, rfl⟩ := hp3
  change pm_J X 7 [(0, (3, 90)), (1, (0, a1)), (2, (0, a2)), (3, (0, a3))] [(0, y4)] 118 V0
  refine pm_if_eq (tgt := 19) hC ⟨by omega, by omega⟩ dX12_hump_7 (by decide) (fun c6 => ?_) (fun c6 => ?_)
  · skip
    refine pm_iconst (v := (-1)) hC dX12_hump_19 ?_
    exact pm_iret hC hR pm_nar0 ⟨(-1), rfl, ⟨by omega, by omega⟩, rfl⟩ dX12_hump_20
  · skip
    exfalso; omega
set_option maxHeartbeats 4000000 in
set_option maxRecDepth 100000 in
theorem A_X12_canBe (a1 a2 a3 : Int) (h0 : (-2147483648) ≤ a1 ∧ a1 ≤ 2147483647) (h1 : (-2147483648) ≤ a2 ∧ a2 ≤ 2147483647) (h2 : (-2147483648) ≤ a3 ∧ a3 ≤ 2147483647) : pm_K 3 yX12_canBe cX12_canBe 4 (some .boolean) (fun av V => av = [(3, 90), (0, a1), (0, a2), (0, a3)] ∧ pm_oq pm_qA V) (fun _ V r V' => ∃ y, r = some (0, y) ∧ (0 ≤ y ∧ y ≤ 0 ∧ (y = 1 → (0 ≤ a1 ∧ a1 ≤ 6 ∧ 0 ≤ a2 ∧ a2 ≤ 9 ∧ 0 ≤ a3 ∧ a3 ≤ 99))) ∧ V = V') := by
  refine pm_MT.of (by decide) ⟨Nat.le_refl _, by decide⟩ (fun av V h => by rw [h.1]; exact (by decide : pm_words [(3, 0), (0, 0), (0, 0), (0, 0)] ≤ 4)) ?_
  rintro X av V0 hC - hR ⟨rfl, hV0⟩
  change pm_J X 0 [(0, (3, 90)), (1, (0, a1)), (2, (0, a2)), (3, (0, a3))] [] 118 V0
  refine pm_iload_n hC 1 dX12_canBe_0 rfl ?_
  refine pm_callS (as := [(0, a1)]) (st := []) hC (A_X12_isLaw a1 ⟨by omega, by omega⟩) lm_X12_370 ls_X12_isLaw (by decide) (by decide) rfl rfl (Nat.le_of_ble_eq_true rfl) ⟨Nat.le_refl _, Or.inl rfl⟩ dX12_canBe_1 ⟨rfl, hV0⟩ (fun r1 V2 hp3 => ?_)
  obtain ⟨y4, rfl, b5, rfl⟩ := hp3
  change pm_J X 4 [(0, (3, 90)), (1, (0, a1)), (2, (0, a2)), (3, (0, a3))] [(0, y4)] 118 V0
  refine pm_if_eq (tgt := 29) hC ⟨by omega, by omega⟩ dX12_canBe_4 (by decide) (fun c6 => ?_) (fun c6 => ?_)
  · skip
    refine pm_iconst (v := 0) hC dX12_canBe_29 ?_
    exact pm_iret hC hR (pm_narZ (by omega)) ⟨0, rfl, ⟨by omega, by omega, by omega⟩, rfl⟩ dX12_canBe_30
  · skip
    refine pm_aload_n hC 0 (by decide) dX12_canBe_7 rfl ?_
    refine pm_iload_n hC 2 dX12_canBe_8 rfl ?_
    refine pm_callV (ci := 12) (as := [(0, a2)]) (st := []) hC 90 (A_X12_isPerson a2 ⟨by omega, by omega⟩) lm_X12_302 li_X12_isPerson (by decide) (by decide) rfl rfl rfl (by decide) rfl rfl (Nat.le_of_ble_eq_true rfl) ⟨Nat.le_refl _, Or.inl rfl⟩ dX12_canBe_9 ⟨rfl, hV0⟩ (fun r7 V8 hp9 => ?_)
    obtain ⟨y10, rfl, b11, rfl⟩ := hp9
    change pm_J X 12 [(0, (3, 90)), (1, (0, a1)), (2, (0, a2)), (3, (0, a3))] [(0, y10)] 118 V0
    refine pm_if_eq (tgt := 29) hC ⟨by omega, by omega⟩ dX12_canBe_12 (by decide) (fun c12 => ?_) (fun c12 => ?_)
    · skip
      refine pm_iconst (v := 0) hC dX12_canBe_29 ?_
      exact pm_iret hC hR (pm_narZ (by omega)) ⟨0, rfl, ⟨by omega, by omega, by omega⟩, rfl⟩ dX12_canBe_30
    · skip
      exfalso; omega
set_option maxHeartbeats 4000000 in
set_option maxRecDepth 100000 in
theorem A_X12_right (a1 a2 a3 : Int) (h0 : (-2147483648) ≤ a1 ∧ a1 ≤ 2147483647) (h1 : (-2147483648) ≤ a2 ∧ a2 ≤ 2147483647) (h2 : (-2147483648) ≤ a3 ∧ a3 ≤ 2147483647) : pm_K 4 yX12_right cX12_right 4 (some .int) (fun av V => av = [(3, 90), (0, a1), (0, a2), (0, a3)] ∧ pm_oq pm_qA V) (fun _ V r V' => ∃ y, r = some (0, y) ∧ ((-1) ≤ y ∧ y ≤ (-1)) ∧ V = V') := by
  refine pm_MT.of (by decide) ⟨Nat.le_refl _, by decide⟩ (fun av V h => by rw [h.1]; exact (by decide : pm_words [(3, 0), (0, 0), (0, 0), (0, 0)] ≤ 4)) ?_
  rintro X av V0 hC - hR ⟨rfl, hV0⟩
  change pm_J X 0 [(0, (3, 90)), (1, (0, a1)), (2, (0, a2)), (3, (0, a3))] [] 118 V0
  refine pm_aload_n hC 0 (by decide) dX12_right_0 rfl ?_
  refine pm_iload_n hC 1 dX12_right_1 rfl ?_
  refine pm_iload_n hC 2 dX12_right_2 rfl ?_
  refine pm_iload_n hC 3 dX12_right_3 rfl ?_
  refine pm_callV (ci := 12) (as := [(0, a1), (0, a2), (0, a3)]) (st := []) hC 90 (A_X12_canBe a1 a2 a3 ⟨by omega, by omega⟩ ⟨by omega, by omega⟩ ⟨by omega, by omega⟩) lm_X12_439 li_X12_canBe (by decide) (by decide) rfl rfl rfl (by decide) rfl rfl (Nat.le_of_ble_eq_true rfl) ⟨Nat.le_refl _, Or.inl rfl⟩ dX12_right_4 ⟨rfl, hV0⟩ (fun r1 V2 hp3 => ?_)
  obtain ⟨y4, rfl, b5, rfl⟩ := hp3
  change pm_J X 7 [(0, (3, 90)), (1, (0, a1)), (2, (0, a2)), (3, (0, a3))] [(0, y4)] 118 V0
  refine pm_if_eq (tgt := 20) hC ⟨by omega, by omega⟩ dX12_right_7 (by decide) (fun c6 => ?_) (fun c6 => ?_)
  · skip
    refine pm_iconst (v := (-1)) hC dX12_right_20 ?_
    exact pm_iret hC hR pm_nar0 ⟨(-1), rfl, ⟨by omega, by omega⟩, rfl⟩ dX12_right_21
  · skip
    exfalso; omega
set_option maxHeartbeats 4000000 in
set_option maxRecDepth 100000 in
theorem A_X12_worth (a1 a2 a3 : Int) (h0 : (-2147483648) ≤ a1 ∧ a1 ≤ 2147483647) (h1 : (-2147483648) ≤ a2 ∧ a2 ≤ 2147483647) (h2 : (-2147483648) ≤ a3 ∧ a3 ≤ 2147483647) : pm_K 4 yX12_worth cX12_worth 6 (some .int) (fun av V => av = [(3, 90), (0, a1), (0, a2), (0, a3)] ∧ pm_oq pm_qA V) (fun _ V r V' => ∃ y, r = some (0, y) ∧ ((-1) ≤ y ∧ y ≤ (-1)) ∧ V = V') := by
  refine pm_MT.of (by decide) ⟨Nat.le_refl _, by decide⟩ (fun av V h => by rw [h.1]; exact (by decide : pm_words [(3, 0), (0, 0), (0, 0), (0, 0)] ≤ 6)) ?_
  rintro X av V0 hC - hR ⟨rfl, hV0⟩
  change pm_J X 0 [(0, (3, 90)), (1, (0, a1)), (2, (0, a2)), (3, (0, a3))] [] 118 V0
  refine pm_aload_n hC 0 (by decide) dX12_worth_0 rfl ?_
  refine pm_iload_n hC 1 dX12_worth_1 rfl ?_
  refine pm_iload_n hC 2 dX12_worth_2 rfl ?_
  refine pm_iload_n hC 3 dX12_worth_3 rfl ?_
  refine pm_callV (ci := 12) (as := [(0, a1), (0, a2), (0, a3)]) (st := []) hC 90 (A_X12_canBe a1 a2 a3 ⟨by omega, by omega⟩ ⟨by omega, by omega⟩ ⟨by omega, by omega⟩) lm_X12_439 li_X12_canBe (by decide) (by decide) rfl rfl rfl (by decide) rfl rfl (Nat.le_of_ble_eq_true rfl) ⟨Nat.le_refl _, Or.inl rfl⟩ dX12_worth_4 ⟨rfl, hV0⟩ (fun r1 V2 hp3 => ?_)
  obtain ⟨y4, rfl, b5, rfl⟩ := hp3
  change pm_J X 7 [(0, (3, 90)), (1, (0, a1)), (2, (0, a2)), (3, (0, a3))] [(0, y4)] 118 V0
  refine pm_if_ne (tgt := 12) hC ⟨by omega, by omega⟩ dX12_worth_7 (by decide) (fun c6 => ?_) (fun c6 => ?_)
  · skip
    exfalso; omega
  · skip
    refine pm_iconst (v := (-1)) hC dX12_worth_10 ?_
    exact pm_iret hC hR pm_nar0 ⟨(-1), rfl, ⟨by omega, by omega⟩, rfl⟩ dX12_worth_11
set_option maxHeartbeats 4000000 in
set_option maxRecDepth 100000 in
theorem A_X12_areLaws (a1 : Int) (h0 : (-2147483648) ≤ a1 ∧ a1 ≤ 2147483647) : pm_K 3 yX12_areLaws cX12_areLaws 1 (some .boolean) (fun av V => av = [(0, a1)] ∧ pm_oq pm_qA V) (fun _ V r V' => ∃ y, r = some (0, y) ∧ (0 ≤ y ∧ y ≤ 1 ∧ (y = 1 → (0 ≤ a1 ∧ a1 ≤ 69))) ∧ V = V') := by
  refine pm_MT.of (by decide) ⟨Nat.le_refl _, by decide⟩ (fun av V h => by rw [h.1]; exact (by decide : pm_words [(0, 0)] ≤ 1)) ?_
  rintro X av V0 hC - hR ⟨rfl, hV0⟩
  change pm_J X 0 [(0, (0, a1))] [] 118 V0
  refine pm_iload_n hC 0 dX12_areLaws_0 rfl ?_
  refine pm_if_lt (tgt := 28) hC ⟨by omega, by omega⟩ dX12_areLaws_1 (by decide) (fun c1 => ?_) (fun c1 => ?_)
  · skip
    refine pm_iconst (v := 0) hC dX12_areLaws_28 ?_
    exact pm_iret hC hR (pm_narZ (by omega)) ⟨0, rfl, ⟨by omega, by omega, by omega⟩, rfl⟩ dX12_areLaws_29
  · skip
    refine pm_iload_n hC 0 dX12_areLaws_4 rfl ?_
    refine pm_bipush (v := 10) hC dX12_areLaws_5 (by decide) ?_
    refine pm_idiv hC ⟨by omega, by omega, by omega⟩ ⟨by decide, by decide, by decide⟩ dX12_areLaws_7 ?_
    refine pm_callS (as := [(0, (a1 / 10))]) (st := []) hC (A_X12_isLaw (a1 / 10) ⟨by omega, by omega⟩) lm_X12_370 ls_X12_isLaw (by decide) (by decide) rfl rfl (Nat.le_of_ble_eq_true rfl) ⟨Nat.le_refl _, Or.inl rfl⟩ dX12_areLaws_8 ⟨rfl, hV0⟩ (fun r2 V3 hp4 => ?_)
    obtain ⟨y5, rfl, b6, rfl⟩ := hp4
    change pm_J X 11 [(0, (0, a1))] [(0, y5)] 118 V0
    refine pm_if_eq (tgt := 28) hC ⟨by omega, by omega⟩ dX12_areLaws_11 (by decide) (fun c7 => ?_) (fun c7 => ?_)
    · skip
      refine pm_iconst (v := 0) hC dX12_areLaws_28 ?_
      exact pm_iret hC hR (pm_narZ (by omega)) ⟨0, rfl, ⟨by omega, by omega, by omega⟩, rfl⟩ dX12_areLaws_29
    · skip
      refine pm_iload_n hC 0 dX12_areLaws_14 rfl ?_
      refine pm_bipush (v := 10) hC dX12_areLaws_15 (by decide) ?_
      refine pm_irem hC ⟨by omega, by omega, by omega⟩ ⟨by decide, by decide, by decide⟩ dX12_areLaws_17 ?_
      refine pm_callS (as := [(0, (a1 % 10))]) (st := []) hC (A_X12_isLaw (a1 % 10) ⟨by omega, by omega⟩) lm_X12_370 ls_X12_isLaw (by decide) (by decide) rfl rfl (Nat.le_of_ble_eq_true rfl) ⟨Nat.le_refl _, Or.inl rfl⟩ dX12_areLaws_18 ⟨rfl, hV0⟩ (fun r8 V9 hp10 => ?_)
      obtain ⟨y11, rfl, b12, rfl⟩ := hp10
      change pm_J X 21 [(0, (0, a1))] [(0, y11)] 118 V0
      refine pm_if_eq (tgt := 28) hC ⟨by omega, by omega⟩ dX12_areLaws_21 (by decide) (fun c13 => ?_) (fun c13 => ?_)
      · skip
        refine pm_iconst (v := 0) hC dX12_areLaws_28 ?_
        exact pm_iret hC hR (pm_narZ (by omega)) ⟨0, rfl, ⟨by omega, by omega, by omega⟩, rfl⟩ dX12_areLaws_29
      · skip
        refine pm_iconst (v := 1) hC dX12_areLaws_24 ?_
        refine pm_goto (tgt := 29) hC dX12_areLaws_25 (by decide) ?_
        exact pm_iret hC hR (pm_narZ (by omega)) ⟨1, rfl, ⟨by omega, by omega, by omega⟩, rfl⟩ dX12_areLaws_29
set_option maxHeartbeats 4000000 in
set_option maxRecDepth 100000 in
theorem A_X12_parted (a1 a2 a3 a4 : Int) (h0 : (-2147483648) ≤ a1 ∧ a1 ≤ 2147483647) (h1 : (-2147483648) ≤ a2 ∧ a2 ≤ 2147483647) (h2 : (-2147483648) ≤ a3 ∧ a3 ≤ 2147483647) (h3 : (-2147483648) ≤ a4 ∧ a4 ≤ 2147483647) : pm_K 4 yX12_parted cX12_parted 5 (some .int) (fun av V => av = [(3, 90), (0, a1), (0, a2), (0, a3), (0, a4)] ∧ pm_oq pm_qA V) (fun _ V r V' => ∃ y, r = some (0, y) ∧ ((-1) ≤ y ∧ y ≤ (-1)) ∧ V = V') := by
  refine pm_MT.of (by decide) ⟨Nat.le_refl _, by decide⟩ (fun av V h => by rw [h.1]; exact (by decide : pm_words [(3, 0), (0, 0), (0, 0), (0, 0), (0, 0)] ≤ 5)) ?_
  rintro X av V0 hC - hR ⟨rfl, hV0⟩
  change pm_J X 0 [(0, (3, 90)), (1, (0, a1)), (2, (0, a2)), (3, (0, a3)), (4, (0, a4))] [] 118 V0
  refine pm_iload_n hC 1 dX12_parted_0 rfl ?_
  refine pm_callS (as := [(0, a1)]) (st := []) hC (A_X12_areLaws a1 ⟨by omega, by omega⟩) lm_X12_447 ls_X12_areLaws (by decide) (by decide) rfl rfl (Nat.le_of_ble_eq_true rfl) ⟨Nat.le_refl _, Or.inl rfl⟩ dX12_parted_1 ⟨rfl, hV0⟩ (fun r1 V2 hp3 => ?_)
  obtain ⟨y4, rfl, b5, rfl⟩ := hp3
  change pm_J X 4 [(0, (3, 90)), (1, (0, a1)), (2, (0, a2)), (3, (0, a3)), (4, (0, a4))] [(0, y4)] 118 V0
  refine pm_if_eq (tgt := 18) hC ⟨by omega, by omega⟩ dX12_parted_4 (by decide) (fun c6 => ?_) (fun c6 => ?_)
  · skip
    refine pm_iconst (v := (-1)) hC dX12_parted_18 ?_
    exact pm_iret hC hR pm_nar0 ⟨(-1), rfl, ⟨by omega, by omega⟩, rfl⟩ dX12_parted_19
  · skip
    refine pm_aload_n hC 0 (by decide) dX12_parted_7 rfl ?_
    refine pm_iload_n hC 2 dX12_parted_8 rfl ?_
    refine pm_iload_n hC 3 dX12_parted_9 rfl ?_
    refine pm_iload hC 4 dX12_parted_10 rfl ?_
    refine pm_callV (ci := 12) (as := [(0, a2), (0, a3), (0, a4)]) (st := []) hC 90 (A_X12_isTrial a2 a3 a4 ⟨by omega, by omega⟩ ⟨by omega, by omega⟩ ⟨by omega, by omega⟩) lm_X12_373 li_X12_isTrial (by decide) (by decide) rfl rfl rfl (by decide) rfl rfl (Nat.le_of_ble_eq_true rfl) ⟨Nat.le_refl _, Or.inl rfl⟩ dX12_parted_12 ⟨rfl, hV0⟩ (fun r7 V8 hp9 => ?_)
    obtain ⟨y10, rfl, b11, rfl⟩ := hp9
    change pm_J X 15 [(0, (3, 90)), (1, (0, a1)), (2, (0, a2)), (3, (0, a3)), (4, (0, a4))] [(0, y10)] 118 V0
    refine pm_if_ne (tgt := 20) hC ⟨by omega, by omega⟩ dX12_parted_15 (by decide) (fun c12 => ?_) (fun c12 => ?_)
    · skip
      exfalso; omega
    · skip
      refine pm_iconst (v := (-1)) hC dX12_parted_18 ?_
      exact pm_iret hC hR pm_nar0 ⟨(-1), rfl, ⟨by omega, by omega⟩, rfl⟩ dX12_parted_19
set_option maxHeartbeats 4000000 in
set_option maxRecDepth 100000 in
theorem A_X12_next (a1 a2 a3 a4 : Int) (h0 : (-2147483648) ≤ a1 ∧ a1 ≤ 2147483647) (h1 : (-2147483648) ≤ a2 ∧ a2 ≤ 2147483647) (h2 : (-2147483648) ≤ a3 ∧ a3 ≤ 2147483647) (h3 : (-2147483648) ≤ a4 ∧ a4 ≤ 2147483647) : pm_K 4 yX12_next cX12_next 11 (some .int) (fun av V => av = [(3, 90), (0, a1), (0, a2), (0, a3), (0, a4)] ∧ pm_oq pm_qA V) (fun _ V r V' => ∃ y, r = some (0, y) ∧ ((-1) ≤ y ∧ y ≤ (-1)) ∧ V = V') := by
  refine pm_MT.of (by decide) ⟨Nat.le_refl _, by decide⟩ (fun av V h => by rw [h.1]; exact (by decide : pm_words [(3, 0), (0, 0), (0, 0), (0, 0), (0, 0)] ≤ 11)) ?_
  rintro X av V0 hC - hR ⟨rfl, hV0⟩
  change pm_J X 0 [(0, (3, 90)), (1, (0, a1)), (2, (0, a2)), (3, (0, a3)), (4, (0, a4))] [] 118 V0
  refine pm_iload_n hC 1 dX12_next_0 rfl ?_
  refine pm_callS (as := [(0, a1)]) (st := []) hC (A_X12_areLaws a1 ⟨by omega, by omega⟩) lm_X12_447 ls_X12_areLaws (by decide) (by decide) rfl rfl (Nat.le_of_ble_eq_true rfl) ⟨Nat.le_refl _, Or.inl rfl⟩ dX12_next_1 ⟨rfl, hV0⟩ (fun r1 V2 hp3 => ?_)
  obtain ⟨y4, rfl, b5, rfl⟩ := hp3
  change pm_J X 4 [(0, (3, 90)), (1, (0, a1)), (2, (0, a2)), (3, (0, a3)), (4, (0, a4))] [(0, y4)] 118 V0
  refine pm_if_eq (tgt := 35) hC ⟨by omega, by omega⟩ dX12_next_4 (by decide) (fun c6 => ?_) (fun c6 => ?_)
  · skip
    refine pm_iconst (v := (-1)) hC dX12_next_35 ?_
    exact pm_iret hC hR pm_nar0 ⟨(-1), rfl, ⟨by omega, by omega⟩, rfl⟩ dX12_next_36
  · skip
    refine pm_aload_n hC 0 (by decide) dX12_next_7 rfl ?_
    refine pm_iload_n hC 2 dX12_next_8 rfl ?_
    refine pm_callV (ci := 12) (as := [(0, a2)]) (st := []) hC 90 (A_X12_isPerson a2 ⟨by omega, by omega⟩) lm_X12_302 li_X12_isPerson (by decide) (by decide) rfl rfl rfl (by decide) rfl rfl (Nat.le_of_ble_eq_true rfl) ⟨Nat.le_refl _, Or.inl rfl⟩ dX12_next_9 ⟨rfl, hV0⟩ (fun r7 V8 hp9 => ?_)
    obtain ⟨y10, rfl, b11, rfl⟩ := hp9
    change pm_J X 12 [(0, (3, 90)), (1, (0, a1)), (2, (0, a2)), (3, (0, a3)), (4, (0, a4))] [(0, y10)] 118 V0
    refine pm_if_eq (tgt := 35) hC ⟨by omega, by omega⟩ dX12_next_12 (by decide) (fun c12 => ?_) (fun c12 => ?_)
    · skip
      refine pm_iconst (v := (-1)) hC dX12_next_35 ?_
      exact pm_iret hC hR pm_nar0 ⟨(-1), rfl, ⟨by omega, by omega⟩, rfl⟩ dX12_next_36
    · skip
      exfalso; omega
set_option maxHeartbeats 4000000 in
set_option maxRecDepth 100000 in
theorem A_X12_knowing (a1 a2 a3 a4 : Int) (h0 : (-2147483648) ≤ a1 ∧ a1 ≤ 2147483647) (h1 : (-2147483648) ≤ a2 ∧ a2 ≤ 2147483647) (h2 : (-2147483648) ≤ a3 ∧ a3 ≤ 2147483647) (h3 : (-2147483648) ≤ a4 ∧ a4 ≤ 2147483647) : pm_K 4 yX12_knowing cX12_knowing 6 (some .int) (fun av V => av = [(3, 90), (0, a1), (0, a2), (0, a3), (0, a4)] ∧ pm_oq pm_qA V) (fun _ V r V' => ∃ y, r = some (0, y) ∧ ((-1) ≤ y ∧ y ≤ (-1)) ∧ V = V') := by
  refine pm_MT.of (by decide) ⟨Nat.le_refl _, by decide⟩ (fun av V h => by rw [h.1]; exact (by decide : pm_words [(3, 0), (0, 0), (0, 0), (0, 0), (0, 0)] ≤ 6)) ?_
  rintro X av V0 hC - hR ⟨rfl, hV0⟩
  change pm_J X 0 [(0, (3, 90)), (1, (0, a1)), (2, (0, a2)), (3, (0, a3)), (4, (0, a4))] [] 118 V0
  refine pm_aload_n hC 0 (by decide) dX12_knowing_0 rfl ?_
  refine pm_iload_n hC 1 dX12_knowing_1 rfl ?_
  refine pm_iload_n hC 2 dX12_knowing_2 rfl ?_
  refine pm_iload_n hC 3 dX12_knowing_3 rfl ?_
  refine pm_iload hC 4 dX12_knowing_4 rfl ?_
  refine pm_callV (ci := 12) (as := [(0, a1), (0, a2), (0, a3), (0, a4)]) (st := []) hC 90 (A_X12_weighsIf a1 a2 a3 a4 ⟨by omega, by omega⟩ ⟨by omega, by omega⟩ ⟨by omega, by omega⟩ ⟨by omega, by omega⟩) lm_X12_383 li_X12_weighsIf (by decide) (by decide) rfl rfl rfl (by decide) rfl rfl (Nat.le_of_ble_eq_true rfl) ⟨Nat.le_refl _, Or.inl rfl⟩ dX12_knowing_6 ⟨rfl, hV0⟩ (fun r1 V2 hp3 => ?_)
  obtain ⟨y4, rfl, b5, rfl⟩ := hp3
  change pm_J X 9 [(0, (3, 90)), (1, (0, a1)), (2, (0, a2)), (3, (0, a3)), (4, (0, a4))] [(0, y4)] 118 V0
  refine pm_if_ne (tgt := 14) hC ⟨by omega, by omega⟩ dX12_knowing_9 (by decide) (fun c6 => ?_) (fun c6 => ?_)
  · skip
    exfalso; omega
  · skip
    refine pm_iconst (v := (-1)) hC dX12_knowing_12 ?_
    exact pm_iret hC hR pm_nar0 ⟨(-1), rfl, ⟨by omega, by omega⟩, rfl⟩ dX12_knowing_13
set_option maxHeartbeats 4000000 in
set_option maxRecDepth 100000 in
theorem A_X12_called (a1 a2 a3 a4 : Int) (h0 : (-2147483648) ≤ a1 ∧ a1 ≤ 2147483647) (h1 : (-2147483648) ≤ a2 ∧ a2 ≤ 2147483647) (h2 : (-2147483648) ≤ a3 ∧ a3 ≤ 2147483647) (h3 : (-2147483648) ≤ a4 ∧ a4 ≤ 2147483647) : pm_K 2 yX12_called cX12_called 13 (some .int) (fun av V => av = [(3, 90), (0, a1), (0, a2), (0, a3), (0, a4)] ∧ pm_oq pm_qA V) (fun _ V r V' => ∃ y, r = some (0, y) ∧ ((-1) ≤ y ∧ y ≤ (-1)) ∧ V = V') := by
  refine pm_MT.of (by decide) ⟨Nat.le_refl _, by decide⟩ (fun av V h => by rw [h.1]; exact (by decide : pm_words [(3, 0), (0, 0), (0, 0), (0, 0), (0, 0)] ≤ 13)) ?_
  rintro X av V0 hC - hR ⟨rfl, hV0⟩
  change pm_J X 0 [(0, (3, 90)), (1, (0, a1)), (2, (0, a2)), (3, (0, a3)), (4, (0, a4))] [] 118 V0
  refine pm_aload_n hC 0 (by decide) dX12_called_0 rfl ?_
  obtain ⟨y1, e2⟩ : ∃ y, V0 90 35 = y := ⟨_, rfl⟩
  have b3 := hV0.get 90 35 (lo := 0) (hi := 10) (by decide) (by decide) rfl
  rw [e2] at b3
  refine pm_getf (v := y1) hC 90 fl_X12_296 rfl rfl (by decide) rfl e2 dX12_called_1 ?_
  refine pm_if_eq (tgt := 27) hC ⟨by omega, by omega⟩ dX12_called_4 (by decide) (fun c4 => ?_) (fun c4 => ?_)
  · skip
    refine pm_iconst (v := (-1)) hC dX12_called_27 ?_
    exact pm_iret hC hR pm_nar0 ⟨(-1), rfl, ⟨by omega, by omega⟩, rfl⟩ dX12_called_28
  · skip
    refine pm_aload_n hC 0 (by decide) dX12_called_7 rfl ?_
    refine pm_iload_n hC 1 dX12_called_8 rfl ?_
    refine pm_iload_n hC 2 dX12_called_9 rfl ?_
    refine pm_iload_n hC 3 dX12_called_10 rfl ?_
    refine pm_callV (ci := 12) (as := [(0, a1), (0, a2), (0, a3)]) (st := []) hC 90 (A_X12_isTrial a1 a2 a3 ⟨by omega, by omega⟩ ⟨by omega, by omega⟩ ⟨by omega, by omega⟩) lm_X12_373 li_X12_isTrial (by decide) (by decide) rfl rfl rfl (by decide) rfl rfl (Nat.le_of_ble_eq_true rfl) ⟨Nat.le_refl _, Or.inl rfl⟩ dX12_called_11 ⟨rfl, hV0⟩ (fun r5 V6 hp7 => ?_)
    obtain ⟨y8, rfl, b9, rfl⟩ := hp7
    change pm_J X 14 [(0, (3, 90)), (1, (0, a1)), (2, (0, a2)), (3, (0, a3)), (4, (0, a4))] [(0, y8)] 118 V0
    refine pm_if_eq (tgt := 27) hC ⟨by omega, by omega⟩ dX12_called_14 (by decide) (fun c10 => ?_) (fun c10 => ?_)
    · skip
      refine pm_iconst (v := (-1)) hC dX12_called_27 ?_
      exact pm_iret hC hR pm_nar0 ⟨(-1), rfl, ⟨by omega, by omega⟩, rfl⟩ dX12_called_28
    · skip
      exfalso; omega
set_option maxHeartbeats 4000000 in
set_option maxRecDepth 100000 in
theorem A_X12_draw (a1 a2 a3 a4 : Int) (h0 : (-2147483648) ≤ a1 ∧ a1 ≤ 2147483647) (h1 : (-2147483648) ≤ a2 ∧ a2 ≤ 2147483647) (h2 : (-2147483648) ≤ a3 ∧ a3 ≤ 2147483647) (h3 : (-2147483648) ≤ a4 ∧ a4 ≤ 2147483647) : pm_K 3 yX12_draw cX12_draw 16 (some .int) (fun av V => av = [(3, 90), (0, a1), (0, a2), (0, a3), (0, a4)] ∧ pm_oq pm_qA V) (fun _ V r V' => ∃ y, r = some (0, y) ∧ ((-1) ≤ y ∧ y ≤ (-1)) ∧ V = V') := by
  refine pm_MT.of (by decide) ⟨Nat.le_refl _, by decide⟩ (fun av V h => by rw [h.1]; exact (by decide : pm_words [(3, 0), (0, 0), (0, 0), (0, 0), (0, 0)] ≤ 16)) ?_
  rintro X av V0 hC - hR ⟨rfl, hV0⟩
  change pm_J X 0 [(0, (3, 90)), (1, (0, a1)), (2, (0, a2)), (3, (0, a3)), (4, (0, a4))] [] 118 V0
  refine pm_iload_n hC 1 dX12_draw_0 rfl ?_
  refine pm_callS (as := [(0, a1)]) (st := []) hC (A_X12_isLaw a1 ⟨by omega, by omega⟩) lm_X12_370 ls_X12_isLaw (by decide) (by decide) rfl rfl (Nat.le_of_ble_eq_true rfl) ⟨Nat.le_refl _, Or.inl rfl⟩ dX12_draw_1 ⟨rfl, hV0⟩ (fun r1 V2 hp3 => ?_)
  obtain ⟨y4, rfl, b5, rfl⟩ := hp3
  change pm_J X 4 [(0, (3, 90)), (1, (0, a1)), (2, (0, a2)), (3, (0, a3)), (4, (0, a4))] [(0, y4)] 118 V0
  refine pm_if_eq (tgt := 49) hC ⟨by omega, by omega⟩ dX12_draw_4 (by decide) (fun c6 => ?_) (fun c6 => ?_)
  · skip
    refine pm_iconst (v := (-1)) hC dX12_draw_49 ?_
    exact pm_iret hC hR pm_nar0 ⟨(-1), rfl, ⟨by omega, by omega⟩, rfl⟩ dX12_draw_50
  · skip
    refine pm_aload_n hC 0 (by decide) dX12_draw_7 rfl ?_
    refine pm_iload_n hC 2 dX12_draw_8 rfl ?_
    refine pm_callV (ci := 12) (as := [(0, a2)]) (st := []) hC 90 (A_X12_isPerson a2 ⟨by omega, by omega⟩) lm_X12_302 li_X12_isPerson (by decide) (by decide) rfl rfl rfl (by decide) rfl rfl (Nat.le_of_ble_eq_true rfl) ⟨Nat.le_refl _, Or.inl rfl⟩ dX12_draw_9 ⟨rfl, hV0⟩ (fun r7 V8 hp9 => ?_)
    obtain ⟨y10, rfl, b11, rfl⟩ := hp9
    change pm_J X 12 [(0, (3, 90)), (1, (0, a1)), (2, (0, a2)), (3, (0, a3)), (4, (0, a4))] [(0, y10)] 118 V0
    refine pm_if_eq (tgt := 49) hC ⟨by omega, by omega⟩ dX12_draw_12 (by decide) (fun c12 => ?_) (fun c12 => ?_)
    · skip
      refine pm_iconst (v := (-1)) hC dX12_draw_49 ?_
      exact pm_iret hC hR pm_nar0 ⟨(-1), rfl, ⟨by omega, by omega⟩, rfl⟩ dX12_draw_50
    · skip
      exfalso; omega
set_option maxHeartbeats 4000000 in
set_option maxRecDepth 100000 in
theorem A_X12_image (a1 : Int) (h0 : (-2147483648) ≤ a1 ∧ a1 ≤ 2147483647) : pm_K 1 yX12_image cX12_image 3 (some .boolean) (fun av V => av = [(3, 90), (0, a1)] ∧ pm_oq pm_qA V) (fun _ V r V' => ∃ y, r = some (0, y) ∧ (0 ≤ y ∧ y ≤ 0) ∧ V = V') := by
  refine pm_MT.of (by decide) ⟨Nat.le_refl _, by decide⟩ (fun av V h => by rw [h.1]; exact (by decide : pm_words [(3, 0), (0, 0)] ≤ 3)) ?_
  rintro X av V0 hC - hR ⟨rfl, hV0⟩
  change pm_J X 0 [(0, (3, 90)), (1, (0, a1))] [] 118 V0
  refine pm_aload_n hC 0 (by decide) dX12_image_0 rfl ?_
  have e1 : V0 90 15 = 0 := hV0.one 90 15 (by decide) (by decide) rfl
  refine pm_getf (v := 0) hC 90 fl_X12_216 rfl rfl (by decide) rfl e1 dX12_image_1 ?_
  refine pm_if_eq (tgt := 16) hC ⟨by decide, by decide⟩ dX12_image_4 (by decide) (fun c2 => ?_) (fun c2 => ?_)
  · skip
    refine pm_iconst (v := 0) hC dX12_image_16 ?_
    exact pm_iret hC hR (pm_narZ (by omega)) ⟨0, rfl, ⟨by omega, by omega⟩, rfl⟩ dX12_image_17
  · skip
    exfalso; omega
set_option maxHeartbeats 4000000 in
set_option maxRecDepth 100000 in
theorem A_X12_back (a1 : Int) (h0 : (-2147483648) ≤ a1 ∧ a1 ≤ 2147483647) : pm_K 2 yX12_back cX12_back 3 (some .boolean) (fun av V => av = [(3, 90), (0, a1)] ∧ pm_oq pm_qA V) (fun _ V r V' => ∃ y, r = some (0, y) ∧ (0 ≤ y ∧ y ≤ 0) ∧ V = V') := by
  refine pm_MT.of (by decide) ⟨Nat.le_refl _, by decide⟩ (fun av V h => by rw [h.1]; exact (by decide : pm_words [(3, 0), (0, 0)] ≤ 3)) ?_
  rintro X av V0 hC - hR ⟨rfl, hV0⟩
  change pm_J X 0 [(0, (3, 90)), (1, (0, a1))] [] 118 V0
  refine pm_iload_n hC 1 dX12_back_0 rfl ?_
  refine pm_iconst (v := 0) hC dX12_back_1 ?_
  refine pm_iconst (v := 2) hC dX12_back_2 ?_
  refine pm_callS (as := [(0, a1), (0, 0), (0, 2)]) (st := []) hC (A_X12_in a1 0 2 ⟨by omega, by omega⟩ ⟨by decide, by decide⟩ ⟨by decide, by decide⟩) lm_X12_98 ls_X12_in (by decide) (by decide) rfl rfl (Nat.le_of_ble_eq_true rfl) ⟨Nat.le_refl _, Or.inl rfl⟩ dX12_back_3 ⟨rfl, hV0⟩ (fun r1 V2 hp3 => ?_)
  obtain ⟨y4, rfl, b5, rfl⟩ := hp3
  change pm_J X 6 [(0, (3, 90)), (1, (0, a1))] [(0, y4)] 118 V0
  refine pm_if_eq (tgt := 18) hC ⟨by omega, by omega⟩ dX12_back_6 (by decide) (fun c6 => ?_) (fun c6 => ?_)
  · skip
    refine pm_iconst (v := 0) hC dX12_back_18 ?_
    exact pm_iret hC hR (pm_narZ (by omega)) ⟨0, rfl, ⟨by omega, by omega⟩, rfl⟩ dX12_back_19
  · skip
    refine pm_aload_n hC 0 (by decide) dX12_back_9 rfl ?_
    have e7 : V0 90 27 = 102 := hV0.one 90 27 (by decide) (by decide) rfl
    refine pm_getf (v := 102) hC 90 fl_X12_46 rfl rfl (by decide) rfl e7 dX12_back_10 ?_
    refine pm_iload_n hC 1 dX12_back_13 rfl ?_
    obtain ⟨y8, e9⟩ : ∃ y, V0 102 (a1 : Int).toNat = y := ⟨_, rfl⟩
    have b10 := hV0.get 102 (a1 : Int).toNat (lo := 0) (hi := 0) (t := 0) (by decide) (show _ < 3 by omega) rfl
    rw [e9] at b10
    refine pm_zaload (len := 3) (v := y8) hC 102 rfl rfl (by decide) ⟨by omega, by omega⟩ (by decide) e9 dX12_back_14 ?_
    refine pm_if_ne (tgt := 20) hC ⟨by omega, by omega⟩ dX12_back_15 (by decide) (fun c11 => ?_) (fun c11 => ?_)
    · skip
      exfalso; omega
    · skip
      refine pm_iconst (v := 0) hC dX12_back_18 ?_
      exact pm_iret hC hR (pm_narZ (by omega)) ⟨0, rfl, ⟨by omega, by omega⟩, rfl⟩ dX12_back_19
set_option maxHeartbeats 4000000 in
set_option maxRecDepth 100000 in
theorem A_X12_count (a1 : Int) (h0 : (-2147483648) ≤ a1 ∧ a1 ≤ 2147483647) : pm_K 1 yX12_count cX12_count 2 (some .int) (fun av V => av = [(3, 90), (0, a1)] ∧ pm_oq pm_qA V) (fun _ V r V' => ∃ y, r = some (0, y) ∧ ((-1) ≤ y ∧ y ≤ 500) ∧ V = V') := by
  refine pm_MT.of (by decide) ⟨Nat.le_refl _, by decide⟩ (fun av V h => by rw [h.1]; exact (by decide : pm_words [(3, 0), (0, 0)] ≤ 2)) ?_
  rintro X av V0 hC - hR ⟨rfl, hV0⟩
  change pm_J X 0 [(0, (3, 90)), (1, (0, a1))] [] 118 V0
  refine pm_iload_n hC 1 dX12_count_0 rfl ?_
  rcases (show (a1 < 0 ∨ 7 < a1) ∨ a1 = (0 : Int) ∨ a1 = (1 : Int) ∨ a1 = (2 : Int) ∨ a1 = (3 : Int) ∨ a1 = (4 : Int) ∨ a1 = (5 : Int) ∨ a1 = (6 : Int) ∨ a1 = (7 : Int) by omega) with c1 | c1 | c1 | c1 | c1 | c1 | c1 | c1 | c1
  · skip
    refine pm_tableOut (tgt := 88) hC ⟨by omega, by omega⟩ dX12_count_1 c1 (by decide) ?_
    refine pm_iconst (v := (-1)) hC dX12_count_88 ?_
    exact pm_iret hC hR pm_nar0 ⟨(-1), rfl, ⟨by omega, by omega⟩, rfl⟩ dX12_count_89
  · skip
    refine pm_tableIn (tgt := 48) (off := 47) hC ⟨by omega, by omega⟩ dX12_count_1 (by omega) (by omega) (by rw [c1]; rfl) (by decide) ?_
    refine pm_aload_n hC 0 (by decide) dX12_count_48 rfl ?_
    have e2 : V0 90 16 = 0 := hV0.one 90 16 (by decide) (by decide) rfl
    refine pm_getf (v := 0) hC 90 fl_X12_220 rfl rfl (by decide) rfl e2 dX12_count_49 ?_
    exact pm_iret hC hR pm_nar0 ⟨0, rfl, ⟨by omega, by omega⟩, rfl⟩ dX12_count_52
  · skip
    refine pm_tableIn (tgt := 53) (off := 52) hC ⟨by omega, by omega⟩ dX12_count_1 (by omega) (by omega) (by rw [c1]; rfl) (by decide) ?_
    refine pm_aload_n hC 0 (by decide) dX12_count_53 rfl ?_
    have e3 : V0 90 21 = 0 := hV0.one 90 21 (by decide) (by decide) rfl
    refine pm_getf (v := 0) hC 90 fl_X12_223 rfl rfl (by decide) rfl e3 dX12_count_54 ?_
    exact pm_iret hC hR pm_nar0 ⟨0, rfl, ⟨by omega, by omega⟩, rfl⟩ dX12_count_57
  · skip
    refine pm_tableIn (tgt := 58) (off := 57) hC ⟨by omega, by omega⟩ dX12_count_1 (by omega) (by omega) (by rw [c1]; rfl) (by decide) ?_
    refine pm_aload_n hC 0 (by decide) dX12_count_58 rfl ?_
    have e4 : V0 90 23 = 0 := hV0.one 90 23 (by decide) (by decide) rfl
    refine pm_getf (v := 0) hC 90 fl_X12_232 rfl rfl (by decide) rfl e4 dX12_count_59 ?_
    exact pm_iret hC hR pm_nar0 ⟨0, rfl, ⟨by omega, by omega⟩, rfl⟩ dX12_count_62
  · skip
    refine pm_tableIn (tgt := 63) (off := 62) hC ⟨by omega, by omega⟩ dX12_count_1 (by omega) (by omega) (by rw [c1]; rfl) (by decide) ?_
    refine pm_aload_n hC 0 (by decide) dX12_count_63 rfl ?_
    have e5 : V0 90 25 = 0 := hV0.one 90 25 (by decide) (by decide) rfl
    refine pm_getf (v := 0) hC 90 fl_X12_235 rfl rfl (by decide) rfl e5 dX12_count_64 ?_
    exact pm_iret hC hR pm_nar0 ⟨0, rfl, ⟨by omega, by omega⟩, rfl⟩ dX12_count_67
  · skip
    refine pm_tableIn (tgt := 68) (off := 67) hC ⟨by omega, by omega⟩ dX12_count_1 (by omega) (by omega) (by rw [c1]; rfl) (by decide) ?_
    refine pm_aload_n hC 0 (by decide) dX12_count_68 rfl ?_
    obtain ⟨y6, e7⟩ : ∃ y, V0 90 35 = y := ⟨_, rfl⟩
    have b8 := hV0.get 90 35 (lo := 0) (hi := 10) (by decide) (by decide) rfl
    rw [e7] at b8
    refine pm_getf (v := y6) hC 90 fl_X12_296 rfl rfl (by decide) rfl e7 dX12_count_69 ?_
    exact pm_iret hC hR pm_nar0 ⟨y6, rfl, ⟨by omega, by omega⟩, rfl⟩ dX12_count_72
  · skip
    refine pm_tableIn (tgt := 73) (off := 72) hC ⟨by omega, by omega⟩ dX12_count_1 (by omega) (by omega) (by rw [c1]; rfl) (by decide) ?_
    refine pm_aload_n hC 0 (by decide) dX12_count_73 rfl ?_
    have e9 : V0 90 19 = 0 := hV0.one 90 19 (by decide) (by decide) rfl
    refine pm_getf (v := 0) hC 90 fl_X12_226 rfl rfl (by decide) rfl e9 dX12_count_74 ?_
    exact pm_iret hC hR pm_nar0 ⟨0, rfl, ⟨by omega, by omega⟩, rfl⟩ dX12_count_77
  · skip
    refine pm_tableIn (tgt := 78) (off := 77) hC ⟨by omega, by omega⟩ dX12_count_1 (by omega) (by omega) (by rw [c1]; rfl) (by decide) ?_
    refine pm_aload_n hC 0 (by decide) dX12_count_78 rfl ?_
    have e10 : V0 90 20 = 0 := hV0.one 90 20 (by decide) (by decide) rfl
    refine pm_getf (v := 0) hC 90 fl_X12_229 rfl rfl (by decide) rfl e10 dX12_count_79 ?_
    exact pm_iret hC hR pm_nar0 ⟨0, rfl, ⟨by omega, by omega⟩, rfl⟩ dX12_count_82
  · skip
    refine pm_tableIn (tgt := 83) (off := 82) hC ⟨by omega, by omega⟩ dX12_count_1 (by omega) (by omega) (by rw [c1]; rfl) (by decide) ?_
    refine pm_aload_n hC 0 (by decide) dX12_count_83 rfl ?_
    obtain ⟨y11, e12⟩ : ∃ y, V0 90 1 = y := ⟨_, rfl⟩
    have b13 := hV0.get 90 1 (lo := 0) (hi := 500) (by decide) (by decide) rfl
    rw [e12] at b13
    refine pm_getf (v := y11) hC 90 fl_X12_94 rfl rfl (by decide) rfl e12 dX12_count_84 ?_
    exact pm_iret hC hR pm_nar0 ⟨y11, rfl, ⟨by omega, by omega⟩, rfl⟩ dX12_count_87
set_option maxHeartbeats 4000000 in
set_option maxRecDepth 100000 in
theorem A_X12_end (a1 : Int) (h0 : (-2147483648) ≤ a1 ∧ a1 ≤ 2147483647) : pm_K 2 yX12_end cX12_end 2 (some .boolean) (fun av V => av = [(3, 90), (0, a1)] ∧ pm_oq pm_qA V) (fun _ V r V' => ∃ y, r = some (0, y) ∧ (0 ≤ y ∧ y ≤ 1) ∧ pm_oq pm_qA V' ∧ pm_fs [] [1] V V') := by
  refine pm_MT.of (by decide) ⟨Nat.le_refl _, by decide⟩ (fun av V h => by rw [h.1]; exact (by decide : pm_words [(3, 0), (0, 0)] ≤ 2)) ?_
  rintro X av V0 hC - hR ⟨rfl, hV0⟩
  change pm_J X 0 [(0, (3, 90)), (1, (0, a1))] [] 118 V0
  refine pm_iload_n hC 1 dX12_end_0 rfl ?_
  refine pm_iconst (v := 0) hC dX12_end_1 ?_
  refine pm_aload_n hC 0 (by decide) dX12_end_2 rfl ?_
  obtain ⟨y1, e2⟩ : ∃ y, V0 90 1 = y := ⟨_, rfl⟩
  have b3 := hV0.get 90 1 (lo := 0) (hi := 500) (by decide) (by decide) rfl
  rw [e2] at b3
  refine pm_getf (v := y1) hC 90 fl_X12_94 rfl rfl (by decide) rfl e2 dX12_end_3 ?_
  refine pm_callS (as := [(0, a1), (0, 0), (0, y1)]) (st := []) hC (A_X12_in a1 0 y1 ⟨by omega, by omega⟩ ⟨by decide, by decide⟩ ⟨by omega, by omega⟩) lm_X12_98 ls_X12_in (by decide) (by decide) rfl rfl (Nat.le_of_ble_eq_true rfl) ⟨Nat.le_refl _, Or.inl rfl⟩ dX12_end_6 ⟨rfl, hV0⟩ (fun r4 V5 hp6 => ?_)
  obtain ⟨y7, rfl, b8, rfl⟩ := hp6
  change pm_J X 9 [(0, (3, 90)), (1, (0, a1))] [(0, y7)] 118 V0
  refine pm_if_ne (tgt := 14) hC ⟨by omega, by omega⟩ dX12_end_9 (by decide) (fun c9 => ?_) (fun c9 => ?_)
  · skip
    refine pm_aload_n hC 0 (by decide) dX12_end_14 rfl ?_
    refine pm_iload_n hC 1 dX12_end_15 rfl ?_
    refine pm_putf hC 90 fl_X12_94 rfl rfl rfl (by decide) rfl trivial dX12_end_16 ?_
    refine pm_iconst (v := 1) hC dX12_end_19 ?_
    exact pm_iret hC hR (pm_narZ (by omega)) ⟨1, rfl, ⟨by omega, by omega⟩, (hV0.put 90 1 (x := a1) (lo := 0) (hi := 500) rfl ⟨by omega, by omega⟩), ((pm_fs.rf (cs := []) (fs := [1]) (V := V0)).upf 1 a1 rfl)⟩ dX12_end_20
  · skip
    refine pm_iconst (v := 0) hC dX12_end_12 ?_
    exact pm_iret hC hR (pm_narZ (by omega)) ⟨0, rfl, ⟨by omega, by omega⟩, hV0, (pm_fs.rf (cs := []) (fs := [1]) (V := V0))⟩ dX12_end_13
