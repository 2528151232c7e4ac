theorem pm_dig11 {b x : Int} (hb : 0 ≤ b ∧ b ≤ 9) (hx : 0 ≤ x ∧ x ≤ 8) : ((b * 100) + (x * 11)) % 10 ≤ 8 ∧ ((b * 100) + (x * 11)) / 10 % 10 ≤ 8 := by
  have h : x = 0 ∨ x = 1 ∨ x = 2 ∨ x = 3 ∨ x = 4 ∨ x = 5 ∨ x = 6 ∨ x = 7 ∨ x = 8 := by omega
  rcases h with rfl | rfl | rfl | rfl | rfl | rfl | rfl | rfl | rfl <;> omega
set_option maxHeartbeats 4000000 in
set_option maxRecDepth 100000 in
theorem c_X11_sumRight_0 (a1 a2 a3 : Int) (h0 : (-2147483648) ≤ a1 ∧ a1 ≤ 2147483647) (h1 : 0 ≤ a2 ∧ a2 ≤ 9) (h2 : 0 ≤ a3 ∧ a3 ≤ 99) : pm_K 5 yX11_sumRight cX11_sumRight 6 (some .int) (fun av V => av = [(3, 0), (0, a1), (0, a2), (0, a3)] ∧ pm_ok 0 90 V) (fun _ V r V' => ∃ y, r = some (0, y) ∧ ((-2147483648) ≤ y ∧ y ≤ 2147483647) ∧ pm_ok 0 90 V' ∧ pm_fr [73, 74, 75, 76, 77] V V') := by
  refine pm_MT.of (by decide) ⟨Nat.le_refl _, by decide⟩ (fun av V h => by rw [h.1]; exact (by decide : pm_words [(3, 0), (0, 0), (0, 0), (0, 0)] ≤ 6)) ?_
  rintro X av V0 hC - hR ⟨rfl, hV0⟩
  change pm_J X 0 [(0, (3, 0)), (1, (0, a1)), (2, (0, a2)), (3, (0, a3))] [] 118 V0
  refine pm_iconst (v := 0) hC dX11_sumRight_0 ?_
  refine pm_istore (lv' := [(4, (0, 0)), (0, (3, 0)), (1, (0, a1)), (2, (0, a2)), (3, (0, a3))]) hC dX11_sumRight_1 (by decide) rfl ?_
  refine pm_iconst (v := 0) hC dX11_sumRight_3 ?_
  refine pm_istore (lv' := [(5, (0, 0)), (4, (0, 0)), (0, (3, 0)), (1, (0, a1)), (2, (0, a2)), (3, (0, a3))]) hC dX11_sumRight_4 (by decide) rfl ?_
  have L8 : ∀ (N10 : Nat) (x1 : Int) (x3 : Int) (V5 : pm_M), ((-2147483648) ≤ x1 ∧ x1 ≤ 2147483647) → (0 ≤ x3 ∧ x3 ≤ 9) → pm_ok 0 90 V5 → pm_fr [73, 74, 75, 76, 77] V0 V5 → (Int.toNat (9 - x3)) = N10 → pm_J X 6 [(0, (3, 0)), (1, (0, a1)), (2, (0, a2)), (3, (0, a3)), (4, (0, x1)), (5, (0, x3))] [] 118 V5 := by
    intro N10
    induction N10 using Nat.strongRecOn with
    | _ N10 ih11 =>
    intro x1 x3 V5 b2 b4 hV6 hF7 hm9
    refine pm_iload hC 5 dX11_sumRight_6 rfl ?_
    refine pm_aload_n hC 0 (by decide) dX11_sumRight_8 rfl ?_
    rcases hV6.get2 0 8 (lo := 45) (hi := 51) (by decide) (by decide) rfl with e12 | e12
    · skip
      refine pm_getf (v := 45) hC 0 fl_X11_35 rfl rfl (by decide) rfl e12 dX11_sumRight_9 ?_
      obtain ⟨y13, e14⟩ : ∃ y, V5 45 0 = y := ⟨_, rfl⟩
      have b15 := hV6.get 45 0 (lo := 0) (hi := 9) (by decide) (by decide) rfl
      rw [e14] at b15
      refine pm_getf (v := y13) hC 45 fl_X11_136 rfl rfl (by decide) rfl e14 dX11_sumRight_12 ?_
      refine pm_icmp_ge (tgt := 62) hC ⟨by omega, by omega⟩ ⟨by omega, by omega⟩ dX11_sumRight_15 (by decide) (fun c16 => ?_) (fun c16 => ?_)
      · skip
        refine pm_iload hC 4 dX11_sumRight_62 rfl ?_
        exact pm_iret hC hR pm_nar0 ⟨x1, rfl, ⟨by omega, by omega⟩, hV6, hF7⟩ dX11_sumRight_64
      · skip
        refine pm_aload_n hC 0 (by decide) dX11_sumRight_18 rfl ?_
        refine pm_iload_n hC 2 dX11_sumRight_19 rfl ?_
        refine pm_bipush (v := 100) hC dX11_sumRight_20 (by decide) ?_
        refine pm_imul hC dX11_sumRight_22 ?_
        refine pm_iload hC 5 dX11_sumRight_23 rfl ?_
        refine pm_bipush (v := 11) hC dX11_sumRight_25 (by decide) ?_
        refine pm_imul hC dX11_sumRight_27 ?_
        refine pm_iadd hC dX11_sumRight_28 ?_
        refine pm_iload_n hC 3 dX11_sumRight_29 rfl ?_
        refine pm_iconst (v := 0) hC dX11_sumRight_30 ?_
        have hdg := pm_dig11 (b := a2) (x := x3) ⟨by omega, by omega⟩ ⟨by omega, by omega⟩
        refine pm_callV (ci := 11) (as := [(0, ((a2 * 100) + (x3 * 11))), (0, a3), (0, 0)]) (st := []) hC 0 (c_X11_pose_0 ((a2 * 100) + (x3 * 11)) a3 0 ⟨by omega, by omega⟩ ⟨by omega, by omega⟩ ⟨by decide, by decide⟩ (by omega)) lm_X11_229 li_X11_pose (by decide) (by decide) rfl rfl rfl (by decide) rfl rfl (Nat.le_of_ble_eq_true rfl) ⟨Nat.le_refl _, Or.inl rfl⟩ dX11_sumRight_31 ⟨rfl, hV6⟩ (fun r17 V18 hp19 => ?_)
        obtain ⟨rfl, hV20, hF21⟩ := hp19
        change pm_J X 34 [(0, (3, 0)), (1, (0, a1)), (2, (0, a2)), (3, (0, a3)), (4, (0, x1)), (5, (0, x3))] [] 118 V18
        have hF22 := pm_fr.tr hF7 hF21 (by decide)
        have e23 : V18 0 8 = 45 := by rw [hF21 0 (by decide)]; exact e12
        have e24 : V18 45 0 = y13 := by rw [hF21 45 (by decide)]; exact e14
        refine pm_aload_n hC 0 (by decide) dX11_sumRight_34 rfl ?_
        have e25 : V18 0 5 = 73 := hV20.one 0 5 (by decide) (by decide) rfl
        refine pm_getf (v := 73) hC 0 fl_X11_75 rfl rfl (by decide) rfl e25 dX11_sumRight_35 ?_
        refine pm_iload_n hC 1 dX11_sumRight_38 rfl ?_
        refine pm_callV (ci := 10) (as := [(0, a1)]) (st := []) hC 73 (c_X10_weigh_73 a1 ⟨by omega, by omega⟩) lm_X11_294 li_X10_weigh (by decide) (by decide) rfl rfl rfl (by decide) rfl rfl (Nat.le_of_ble_eq_true rfl) ⟨Nat.le_refl _, Or.inl rfl⟩ dX11_sumRight_39 ⟨rfl, hV20⟩ (fun r26 V27 hp28 => ?_)
        obtain ⟨rfl, hV29, hF30⟩ := hp28
        change pm_J X 42 [(0, (3, 0)), (1, (0, a1)), (2, (0, a2)), (3, (0, a3)), (4, (0, x1)), (5, (0, x3))] [] 118 V27
        have hF31 := pm_fr.tr hF22 hF30 (by decide)
        have e32 : V27 0 8 = 45 := by rw [hF30 0 (by decide)]; exact e23
        have e33 : V27 45 0 = y13 := by rw [hF30 45 (by decide)]; exact e24
        have e34 : V27 0 5 = 73 := by rw [hF30 0 (by decide)]; exact e25
        refine pm_iload hC 4 dX11_sumRight_42 rfl ?_
        refine pm_aload_n hC 0 (by decide) dX11_sumRight_44 rfl ?_
        refine pm_getf (v := 73) hC 0 fl_X11_75 rfl rfl (by decide) rfl e34 dX11_sumRight_45 ?_
        refine pm_iload hC 5 dX11_sumRight_48 rfl ?_
        refine pm_callV (ci := 10) (as := [(0, x3)]) (st := [(0, x1)]) hC 73 (c_X10_chanceOf_73 x3 ⟨by omega, by omega⟩) lm_X11_211 li_X10_chanceOf (by decide) (by decide) rfl rfl rfl (by decide) rfl rfl (Nat.le_of_ble_eq_true rfl) ⟨Nat.le_refl _, Or.inl rfl⟩ dX11_sumRight_50 ⟨rfl, hV29⟩ (fun r35 V36 hp37 => ?_)
        obtain ⟨y38, rfl, b39, rfl⟩ := hp37
        change pm_J X 53 [(0, (3, 0)), (1, (0, a1)), (2, (0, a2)), (3, (0, a3)), (4, (0, x1)), (5, (0, x3))] [(0, y38), (0, x1)] 118 V27
        refine pm_iadd hC dX11_sumRight_53 ?_
        refine pm_some hC (fun y40 b41 => ?_)
        have b41 := And.intro b41.1 b41.2
        refine pm_istore (lv' := [(4, (0, y40)), (0, (3, 0)), (1, (0, a1)), (2, (0, a2)), (3, (0, a3)), (5, (0, x3))]) hC dX11_sumRight_54 (by decide) rfl ?_
        obtain ⟨x42, ei43⟩ : ∃ y : Int, x3 + 1 = y := ⟨_, rfl⟩
        refine pm_iinc (y := x42) (lv' := [(5, (0, x42)), (4, (0, y40)), (0, (3, 0)), (1, (0, a1)), (2, (0, a2)), (3, (0, a3))]) hC 5 dX11_sumRight_56 (by decide) rfl ei43 rfl ?_
        refine pm_goto (tgt := 6) hC dX11_sumRight_59 (by decide) ?_
        refine pm_lvsub [2, 3, 4, 5, 1, 0] (lv' := [(0, (3, 0)), (1, (0, a1)), (2, (0, a2)), (3, (0, a3)), (4, (0, y40)), (5, (0, x42))]) rfl ?_
        exact ih11 _ (by omega) y40 x42 V27 ⟨by omega, by omega⟩ ⟨by omega, by omega⟩ hV29 hF31 rfl
    · skip
      refine pm_getf (v := 51) hC 0 fl_X11_35 rfl rfl (by decide) rfl e12 dX11_sumRight_9 ?_
      obtain ⟨y44, e45⟩ : ∃ y, V5 51 0 = y := ⟨_, rfl⟩
      have b46 := hV6.get 51 0 (lo := 0) (hi := 9) (by decide) (by decide) rfl
      rw [e45] at b46
      refine pm_getf (v := y44) hC 51 fl_X11_136 rfl rfl (by decide) rfl e45 dX11_sumRight_12 ?_
      refine pm_icmp_ge (tgt := 62) hC ⟨by omega, by omega⟩ ⟨by omega, by omega⟩ dX11_sumRight_15 (by decide) (fun c47 => ?_) (fun c47 => ?_)
      · skip
        refine pm_iload hC 4 dX11_sumRight_62 rfl ?_
        exact pm_iret hC hR pm_nar0 ⟨x1, rfl, ⟨by omega, by omega⟩, hV6, hF7⟩ dX11_sumRight_64
      · skip
        refine pm_aload_n hC 0 (by decide) dX11_sumRight_18 rfl ?_
        refine pm_iload_n hC 2 dX11_sumRight_19 rfl ?_
        refine pm_bipush (v := 100) hC dX11_sumRight_20 (by decide) ?_
        refine pm_imul hC dX11_sumRight_22 ?_
        refine pm_iload hC 5 dX11_sumRight_23 rfl ?_
        refine pm_bipush (v := 11) hC dX11_sumRight_25 (by decide) ?_
        refine pm_imul hC dX11_sumRight_27 ?_
        refine pm_iadd hC dX11_sumRight_28 ?_
        refine pm_iload_n hC 3 dX11_sumRight_29 rfl ?_
        refine pm_iconst (v := 0) hC dX11_sumRight_30 ?_
        have hdg := pm_dig11 (b := a2) (x := x3) ⟨by omega, by omega⟩ ⟨by omega, by omega⟩
        refine pm_callV (ci := 11) (as := [(0, ((a2 * 100) + (x3 * 11))), (0, a3), (0, 0)]) (st := []) hC 0 (c_X11_pose_0 ((a2 * 100) + (x3 * 11)) a3 0 ⟨by omega, by omega⟩ ⟨by omega, by omega⟩ ⟨by decide, by decide⟩ (by omega)) lm_X11_229 li_X11_pose (by decide) (by decide) rfl rfl rfl (by decide) rfl rfl (Nat.le_of_ble_eq_true rfl) ⟨Nat.le_refl _, Or.inl rfl⟩ dX11_sumRight_31 ⟨rfl, hV6⟩ (fun r48 V49 hp50 => ?_)
        obtain ⟨rfl, hV51, hF52⟩ := hp50
        change pm_J X 34 [(0, (3, 0)), (1, (0, a1)), (2, (0, a2)), (3, (0, a3)), (4, (0, x1)), (5, (0, x3))] [] 118 V49
        have hF53 := pm_fr.tr hF7 hF52 (by decide)
        have e54 : V49 0 8 = 51 := by rw [hF52 0 (by decide)]; exact e12
        have e55 : V49 51 0 = y44 := by rw [hF52 51 (by decide)]; exact e45
        refine pm_aload_n hC 0 (by decide) dX11_sumRight_34 rfl ?_
        have e56 : V49 0 5 = 73 := hV51.one 0 5 (by decide) (by decide) rfl
        refine pm_getf (v := 73) hC 0 fl_X11_75 rfl rfl (by decide) rfl e56 dX11_sumRight_35 ?_
        refine pm_iload_n hC 1 dX11_sumRight_38 rfl ?_
        refine pm_callV (ci := 10) (as := [(0, a1)]) (st := []) hC 73 (c_X10_weigh_73 a1 ⟨by omega, by omega⟩) lm_X11_294 li_X10_weigh (by decide) (by decide) rfl rfl rfl (by decide) rfl rfl (Nat.le_of_ble_eq_true rfl) ⟨Nat.le_refl _, Or.inl rfl⟩ dX11_sumRight_39 ⟨rfl, hV51⟩ (fun r57 V58 hp59 => ?_)
        obtain ⟨rfl, hV60, hF61⟩ := hp59
        change pm_J X 42 [(0, (3, 0)), (1, (0, a1)), (2, (0, a2)), (3, (0, a3)), (4, (0, x1)), (5, (0, x3))] [] 118 V58
        have hF62 := pm_fr.tr hF53 hF61 (by decide)
        have e63 : V58 0 8 = 51 := by rw [hF61 0 (by decide)]; exact e54
        have e64 : V58 51 0 = y44 := by rw [hF61 51 (by decide)]; exact e55
        have e65 : V58 0 5 = 73 := by rw [hF61 0 (by decide)]; exact e56
        refine pm_iload hC 4 dX11_sumRight_42 rfl ?_
        refine pm_aload_n hC 0 (by decide) dX11_sumRight_44 rfl ?_
        refine pm_getf (v := 73) hC 0 fl_X11_75 rfl rfl (by decide) rfl e65 dX11_sumRight_45 ?_
        refine pm_iload hC 5 dX11_sumRight_48 rfl ?_
        refine pm_callV (ci := 10) (as := [(0, x3)]) (st := [(0, x1)]) hC 73 (c_X10_chanceOf_73 x3 ⟨by omega, by omega⟩) lm_X11_211 li_X10_chanceOf (by decide) (by decide) rfl rfl rfl (by decide) rfl rfl (Nat.le_of_ble_eq_true rfl) ⟨Nat.le_refl _, Or.inl rfl⟩ dX11_sumRight_50 ⟨rfl, hV60⟩ (fun r66 V67 hp68 => ?_)
        obtain ⟨y69, rfl, b70, rfl⟩ := hp68
        change pm_J X 53 [(0, (3, 0)), (1, (0, a1)), (2, (0, a2)), (3, (0, a3)), (4, (0, x1)), (5, (0, x3))] [(0, y69), (0, x1)] 118 V58
        refine pm_iadd hC dX11_sumRight_53 ?_
        refine pm_some hC (fun y71 b72 => ?_)
        have b72 := And.intro b72.1 b72.2
        refine pm_istore (lv' := [(4, (0, y71)), (0, (3, 0)), (1, (0, a1)), (2, (0, a2)), (3, (0, a3)), (5, (0, x3))]) hC dX11_sumRight_54 (by decide) rfl ?_
        obtain ⟨x73, ei74⟩ : ∃ y : Int, x3 + 1 = y := ⟨_, rfl⟩
        refine pm_iinc (y := x73) (lv' := [(5, (0, x73)), (4, (0, y71)), (0, (3, 0)), (1, (0, a1)), (2, (0, a2)), (3, (0, a3))]) hC 5 dX11_sumRight_56 (by decide) rfl ei74 rfl ?_
        refine pm_goto (tgt := 6) hC dX11_sumRight_59 (by decide) ?_
        refine pm_lvsub [2, 3, 4, 5, 1, 0] (lv' := [(0, (3, 0)), (1, (0, a1)), (2, (0, a2)), (3, (0, a3)), (4, (0, y71)), (5, (0, x73))]) rfl ?_
        exact ih11 _ (by omega) y71 x73 V58 ⟨by omega, by omega⟩ ⟨by omega, by omega⟩ hV60 hF62 rfl
  refine pm_lvsub [2, 3, 4, 5, 1, 0] (lv' := [(0, (3, 0)), (1, (0, a1)), (2, (0, a2)), (3, (0, a3)), (4, (0, 0)), (5, (0, 0))]) rfl ?_
  exact L8 _ 0 0 V0 ⟨by decide, by decide⟩ ⟨by decide, by decide⟩ hV0 (pm_fr.rf (ws := [73, 74, 75, 76, 77]) (V := V0)) rfl
set_option maxHeartbeats 4000000 in
set_option maxRecDepth 100000 in
theorem c_X11_right_0 (a1 a2 a3 : Int) (h0 : (-2147483648) ≤ a1 ∧ a1 ≤ 2147483647) (h1 : (-2147483648) ≤ a2 ∧ a2 ≤ 2147483647) (h2 : (-2147483648) ≤ a3 ∧ a3 ≤ 2147483647) : pm_K 6 yX11_right cX11_right 4 (some .int) (fun av V => av = [(3, 0), (0, a1), (0, a2), (0, a3)] ∧ pm_ok 0 90 V) (fun _ V r V' => ∃ y, r = some (0, y) ∧ ((-2147483648) ≤ y ∧ y ≤ 2147483647) ∧ pm_ok 0 90 V' ∧ pm_fr [73, 74, 75, 76, 77] V V') := by
  refine pm_MT.of (by decide) ⟨Nat.le_refl _, by decide⟩ (fun av V h => by rw [h.1]; exact (by decide : pm_words [(3, 0), (0, 0), (0, 0), (0, 0)] ≤ 4)) ?_
  rintro X av V0 hC - hR ⟨rfl, hV0⟩
  change pm_J X 0 [(0, (3, 0)), (1, (0, a1)), (2, (0, a2)), (3, (0, a3))] [] 118 V0
  refine pm_iload_n hC 1 dX11_right_0 rfl ?_
  refine pm_callS (as := [(0, a1)]) (st := []) hC (c_X11_isLaw a1 ⟨by omega, by omega⟩) lm_X11_262 ls_X11_isLaw (by decide) (by decide) rfl rfl (Nat.le_of_ble_eq_true rfl) ⟨Nat.le_refl _, Or.inl rfl⟩ dX11_right_1 ⟨rfl, hV0⟩ (fun r1 V2 hp3 => ?_)
  obtain ⟨y4, rfl, b5, rfl⟩ := hp3
  change pm_J X 4 [(0, (3, 0)), (1, (0, a1)), (2, (0, a2)), (3, (0, a3))] [(0, y4)] 118 V0
  refine pm_if_eq (tgt := 22) hC ⟨by omega, by omega⟩ dX11_right_4 (by decide) (fun c6 => ?_) (fun c6 => ?_)
  · skip
    refine pm_iconst (v := (-1)) hC dX11_right_22 ?_
    exact pm_iret hC hR pm_nar0 ⟨(-1), rfl, ⟨by omega, by omega⟩, hV0, (pm_fr.rf (ws := [73, 74, 75, 76, 77]) (V := V0))⟩ dX11_right_23
  · skip
    refine pm_aload_n hC 0 (by decide) dX11_right_7 rfl ?_
    refine pm_iload_n hC 2 dX11_right_8 rfl ?_
    refine pm_callV (ci := 11) (as := [(0, a2)]) (st := []) hC 0 (c_X11_isPerson_0 a2 ⟨by omega, by omega⟩) lm_X11_183 li_X11_isPerson (by decide) (by decide) rfl rfl rfl (by decide) rfl rfl (Nat.le_of_ble_eq_true rfl) ⟨Nat.le_refl _, Or.inl rfl⟩ dX11_right_9 ⟨rfl, hV0⟩ (fun r7 V8 hp9 => ?_)
    obtain ⟨y10, rfl, b11, rfl⟩ := hp9
    change pm_J X 12 [(0, (3, 0)), (1, (0, a1)), (2, (0, a2)), (3, (0, a3))] [(0, y10)] 118 V0
    refine pm_if_eq (tgt := 22) hC ⟨by omega, by omega⟩ dX11_right_12 (by decide) (fun c12 => ?_) (fun c12 => ?_)
    · skip
      refine pm_iconst (v := (-1)) hC dX11_right_22 ?_
      exact pm_iret hC hR pm_nar0 ⟨(-1), rfl, ⟨by omega, by omega⟩, hV0, (pm_fr.rf (ws := [73, 74, 75, 76, 77]) (V := V0))⟩ dX11_right_23
    · skip
      refine pm_iload_n hC 3 dX11_right_15 rfl ?_
      refine pm_callS (as := [(0, a3)]) (st := []) hC (c_X11_isSetting a3 ⟨by omega, by omega⟩) lm_X11_297 ls_X11_isSetting (by decide) (by decide) rfl rfl (Nat.le_of_ble_eq_true rfl) ⟨Nat.le_refl _, Or.inl rfl⟩ dX11_right_16 ⟨rfl, hV0⟩ (fun r13 V14 hp15 => ?_)
      obtain ⟨y16, rfl, b17, rfl⟩ := hp15
      change pm_J X 19 [(0, (3, 0)), (1, (0, a1)), (2, (0, a2)), (3, (0, a3))] [(0, y16)] 118 V0
      refine pm_if_ne (tgt := 24) hC ⟨by omega, by omega⟩ dX11_right_19 (by decide) (fun c18 => ?_) (fun c18 => ?_)
      · skip
        refine pm_aload_n hC 0 (by decide) dX11_right_24 rfl ?_
        refine pm_iload_n hC 1 dX11_right_25 rfl ?_
        refine pm_iload_n hC 2 dX11_right_26 rfl ?_
        refine pm_iload_n hC 3 dX11_right_27 rfl ?_
        refine pm_callV (ci := 11) (as := [(0, a1), (0, a2), (0, a3)]) (st := []) hC 0 (c_X11_sumRight_0 a1 a2 a3 ⟨by omega, by omega⟩ ⟨by omega, by omega⟩ ⟨by omega, by omega⟩) lm_X11_310 li_X11_sumRight (by decide) (by decide) rfl rfl rfl (by decide) rfl rfl (Nat.le_of_ble_eq_true rfl) ⟨Nat.le_refl _, Or.inl rfl⟩ dX11_right_28 ⟨rfl, hV0⟩ (fun r19 V20 hp21 => ?_)
        obtain ⟨y22, rfl, b23, hV24, hF25⟩ := hp21
        change pm_J X 31 [(0, (3, 0)), (1, (0, a1)), (2, (0, a2)), (3, (0, a3))] [(0, y22)] 118 V20
        have hF26 := pm_fr.tr (pm_fr.rf (ws := [73, 74, 75, 76, 77]) (V := V0)) hF25 (by decide)
        exact pm_iret hC hR pm_nar0 ⟨y22, rfl, ⟨by omega, by omega⟩, hV24, hF26⟩ dX11_right_31
      · skip
        refine pm_iconst (v := (-1)) hC dX11_right_22 ?_
        exact pm_iret hC hR pm_nar0 ⟨(-1), rfl, ⟨by omega, by omega⟩, hV0, (pm_fr.rf (ws := [73, 74, 75, 76, 77]) (V := V0))⟩ dX11_right_23
set_option maxHeartbeats 4000000 in
set_option maxRecDepth 100000 in
theorem c_X11_worth_0 (a1 a2 a3 : Int) (h0 : (-2147483648) ≤ a1 ∧ a1 ≤ 2147483647) (h1 : (-2147483648) ≤ a2 ∧ a2 ≤ 2147483647) (h2 : (-2147483648) ≤ a3 ∧ a3 ≤ 2147483647) : pm_K 6 yX11_worth cX11_worth 7 (some .int) (fun av V => av = [(3, 0), (0, a1), (0, a2), (0, a3)] ∧ pm_ok 0 90 V) (fun _ V r V' => ∃ y, r = some (0, y) ∧ ((-1) ≤ y ∧ y ≤ 9) ∧ pm_ok 0 90 V' ∧ pm_fr [73, 74, 75, 76, 77] V V') := by
  refine pm_MT.of (by decide) ⟨Nat.le_refl _, by decide⟩ (fun av V h => by rw [h.1]; exact (by decide : pm_words [(3, 0), (0, 0), (0, 0), (0, 0)] ≤ 7)) ?_
  rintro X av V0 hC - hR ⟨rfl, hV0⟩
  change pm_J X 0 [(0, (3, 0)), (1, (0, a1)), (2, (0, a2)), (3, (0, a3))] [] 118 V0
  refine pm_iload_n hC 1 dX11_worth_0 rfl ?_
  refine pm_callS (as := [(0, a1)]) (st := []) hC (c_X11_isLaw a1 ⟨by omega, by omega⟩) lm_X11_262 ls_X11_isLaw (by decide) (by decide) rfl rfl (Nat.le_of_ble_eq_true rfl) ⟨Nat.le_refl _, Or.inl rfl⟩ dX11_worth_1 ⟨rfl, hV0⟩ (fun r1 V2 hp3 => ?_)
  obtain ⟨y4, rfl, b5, rfl⟩ := hp3
  change pm_J X 4 [(0, (3, 0)), (1, (0, a1)), (2, (0, a2)), (3, (0, a3))] [(0, y4)] 118 V0
  refine pm_if_eq (tgt := 22) hC ⟨by omega, by omega⟩ dX11_worth_4 (by decide) (fun c6 => ?_) (fun c6 => ?_)
  · skip
    refine pm_iconst (v := (-1)) hC dX11_worth_22 ?_
    exact pm_iret hC hR pm_nar0 ⟨(-1), rfl, ⟨by omega, by omega⟩, hV0, (pm_fr.rf (ws := [73, 74, 75, 76, 77]) (V := V0))⟩ dX11_worth_23
  · skip
    refine pm_aload_n hC 0 (by decide) dX11_worth_7 rfl ?_
    refine pm_iload_n hC 2 dX11_worth_8 rfl ?_
    refine pm_callV (ci := 11) (as := [(0, a2)]) (st := []) hC 0 (c_X11_isPerson_0 a2 ⟨by omega, by omega⟩) lm_X11_183 li_X11_isPerson (by decide) (by decide) rfl rfl rfl (by decide) rfl rfl (Nat.le_of_ble_eq_true rfl) ⟨Nat.le_refl _, Or.inl rfl⟩ dX11_worth_9 ⟨rfl, hV0⟩ (fun r7 V8 hp9 => ?_)
    obtain ⟨y10, rfl, b11, rfl⟩ := hp9
    change pm_J X 12 [(0, (3, 0)), (1, (0, a1)), (2, (0, a2)), (3, (0, a3))] [(0, y10)] 118 V0
    refine pm_if_eq (tgt := 22) hC ⟨by omega, by omega⟩ dX11_worth_12 (by decide) (fun c12 => ?_) (fun c12 => ?_)
    · skip
      refine pm_iconst (v := (-1)) hC dX11_worth_22 ?_
      exact pm_iret hC hR pm_nar0 ⟨(-1), rfl, ⟨by omega, by omega⟩, hV0, (pm_fr.rf (ws := [73, 74, 75, 76, 77]) (V := V0))⟩ dX11_worth_23
    · skip
      refine pm_iload_n hC 3 dX11_worth_15 rfl ?_
      refine pm_callS (as := [(0, a3)]) (st := []) hC (c_X11_isSetting a3 ⟨by omega, by omega⟩) lm_X11_297 ls_X11_isSetting (by decide) (by decide) rfl rfl (Nat.le_of_ble_eq_true rfl) ⟨Nat.le_refl _, Or.inl rfl⟩ dX11_worth_16 ⟨rfl, hV0⟩ (fun r13 V14 hp15 => ?_)
      obtain ⟨y16, rfl, b17, rfl⟩ := hp15
      change pm_J X 19 [(0, (3, 0)), (1, (0, a1)), (2, (0, a2)), (3, (0, a3))] [(0, y16)] 118 V0
      refine pm_if_ne (tgt := 24) hC ⟨by omega, by omega⟩ dX11_worth_19 (by decide) (fun c18 => ?_) (fun c18 => ?_)
      · skip
        refine pm_aload_n hC 0 (by decide) dX11_worth_24 rfl ?_
        refine pm_iload_n hC 1 dX11_worth_25 rfl ?_
        refine pm_iload_n hC 2 dX11_worth_26 rfl ?_
        refine pm_iload_n hC 3 dX11_worth_27 rfl ?_
        refine pm_callV (ci := 11) (as := [(0, a1), (0, a2), (0, a3)]) (st := []) hC 0 (c_X11_sumRight_0 a1 a2 a3 ⟨by omega, by omega⟩ ⟨by omega, by omega⟩ ⟨by omega, by omega⟩) lm_X11_310 li_X11_sumRight (by decide) (by decide) rfl rfl rfl (by decide) rfl rfl (Nat.le_of_ble_eq_true rfl) ⟨Nat.le_refl _, Or.inl rfl⟩ dX11_worth_28 ⟨rfl, hV0⟩ (fun r19 V20 hp21 => ?_)
        obtain ⟨y22, rfl, b23, hV24, hF25⟩ := hp21
        change pm_J X 31 [(0, (3, 0)), (1, (0, a1)), (2, (0, a2)), (3, (0, a3))] [(0, y22)] 118 V20
        have hF26 := pm_fr.tr (pm_fr.rf (ws := [73, 74, 75, 76, 77]) (V := V0)) hF25 (by decide)
        refine pm_istore (lv' := [(4, (0, y22)), (0, (3, 0)), (1, (0, a1)), (2, (0, a2)), (3, (0, a3))]) hC dX11_worth_31 (by decide) rfl ?_
        refine pm_iload_n hC 4 dX11_worth_33 rfl ?_
        refine pm_bipush (v := 10) hC dX11_worth_34 (by decide) ?_
        refine pm_idiv hC ⟨by omega, by omega, by omega⟩ ⟨by decide, by decide, by decide⟩ dX11_worth_36 ?_
        refine pm_istore (lv' := [(5, (0, (a3 / 10))), (4, (0, y22)), (0, (3, 0)), (1, (0, a1)), (2, (0, a2)), (3, (0, a3))]) hC dX11_worth_37 (by decide) rfl ?_
        refine pm_iconst (v := 0) hC dX11_worth_39 ?_
        refine pm_istore (lv' := [(6, (0, 0)), (5, (0, (a3 / 10))), (4, (0, y22)), (0, (3, 0)), (1, (0, a1)), (2, (0, a2)), (3, (0, a3))]) hC dX11_worth_40 (by decide) rfl ?_
        have L32 : ∀ (N34 : Nat) (x27 : Int) (V29 : pm_M), (0 ≤ x27 ∧ x27 ≤ 16) → pm_ok 0 90 V29 → pm_fr [73, 74, 75, 76, 77] V0 V29 → (Int.toNat (16 - x27)) = N34 → pm_J X 42 [(0, (3, 0)), (1, (0, a1)), (2, (0, a2)), (3, (0, a3)), (4, (0, y22)), (5, (0, (a3 / 10))), (6, (0, x27))] [] 118 V29 := by
          intro N34
          induction N34 using Nat.strongRecOn with
          | _ N34 ih35 =>
          intro x27 V29 b28 hV30 hF31 hm33
          refine pm_iload hC 6 dX11_worth_42 rfl ?_
          refine pm_iload hC 5 dX11_worth_44 rfl ?_
          refine pm_icmp_gt (tgt := 76) hC ⟨by omega, by omega⟩ ⟨by omega, by omega⟩ dX11_worth_46 (by decide) (fun c36 => ?_) (fun c36 => ?_)
          · skip
            refine pm_iconst (v := (-1)) hC dX11_worth_76 ?_
            exact pm_iret hC hR pm_nar0 ⟨(-1), rfl, ⟨by omega, by omega⟩, hV30, hF31⟩ dX11_worth_77
          · skip
            refine pm_aload_n hC 0 (by decide) dX11_worth_49 rfl ?_
            refine pm_iconst (v := 0) hC dX11_worth_50 ?_
            refine pm_iload_n hC 2 dX11_worth_51 rfl ?_
            refine pm_iload_n hC 3 dX11_worth_52 rfl ?_
            refine pm_iload hC 6 dX11_worth_53 rfl ?_
            refine pm_bipush (v := 10) hC dX11_worth_55 (by decide) ?_
            refine pm_imul hC dX11_worth_57 ?_
            refine pm_isub hC dX11_worth_58 ?_
            refine pm_callV (ci := 11) (as := [(0, 0), (0, a2), (0, (a3 - (x27 * 10)))]) (st := []) hC 0 (c_X11_sumRight_0 0 a2 (a3 - (x27 * 10)) ⟨by decide, by decide⟩ ⟨by omega, by omega⟩ ⟨by omega, by omega⟩) lm_X11_310 li_X11_sumRight (by decide) (by decide) rfl rfl rfl (by decide) rfl rfl (Nat.le_of_ble_eq_true rfl) ⟨Nat.le_refl _, Or.inl rfl⟩ dX11_worth_59 ⟨rfl, hV30⟩ (fun r37 V38 hp39 => ?_)
            obtain ⟨y40, rfl, b41, hV42, hF43⟩ := hp39
            change pm_J X 62 [(0, (3, 0)), (1, (0, a1)), (2, (0, a2)), (3, (0, a3)), (4, (0, y22)), (5, (0, (a3 / 10))), (6, (0, x27))] [(0, y40)] 118 V38
            have hF44 := pm_fr.tr hF31 hF43 (by decide)
            refine pm_iload hC 4 dX11_worth_62 rfl ?_
            refine pm_icmp_lt (tgt := 70) hC ⟨by omega, by omega⟩ ⟨by omega, by omega⟩ dX11_worth_64 (by decide) (fun c45 => ?_) (fun c45 => ?_)
            · skip
              obtain ⟨x46, ei47⟩ : ∃ y : Int, x27 + 1 = y := ⟨_, rfl⟩
              refine pm_iinc (y := x46) (lv' := [(6, (0, x46)), (0, (3, 0)), (1, (0, a1)), (2, (0, a2)), (3, (0, a3)), (4, (0, y22)), (5, (0, (a3 / 10)))]) hC 6 dX11_worth_70 (by decide) rfl ei47 rfl ?_
              refine pm_goto (tgt := 42) hC dX11_worth_73 (by decide) ?_
              refine pm_lvsub [1, 2, 3, 4, 5, 6, 0] (lv' := [(0, (3, 0)), (1, (0, a1)), (2, (0, a2)), (3, (0, a3)), (4, (0, y22)), (5, (0, (a3 / 10))), (6, (0, x46))]) rfl ?_
              exact ih35 _ (by omega) x46 V38 ⟨by omega, by omega⟩ hV42 hF44 rfl
            · skip
              refine pm_iload hC 6 dX11_worth_67 rfl ?_
              exact pm_iret hC hR pm_nar0 ⟨x27, rfl, ⟨by omega, by omega⟩, hV42, hF44⟩ dX11_worth_69
        refine pm_lvsub [3, 4, 5, 6, 2, 1, 0] (lv' := [(0, (3, 0)), (1, (0, a1)), (2, (0, a2)), (3, (0, a3)), (4, (0, y22)), (5, (0, (a3 / 10))), (6, (0, 0))]) rfl ?_
        exact L32 _ 0 V20 ⟨by decide, by decide⟩ hV24 hF26 rfl
      · skip
        refine pm_iconst (v := (-1)) hC dX11_worth_22 ?_
        exact pm_iret hC hR pm_nar0 ⟨(-1), rfl, ⟨by omega, by omega⟩, hV0, (pm_fr.rf (ws := [73, 74, 75, 76, 77]) (V := V0))⟩ dX11_worth_23
set_option maxHeartbeats 4000000 in
set_option maxRecDepth 100000 in
theorem c_X11_areLaws (a1 : Int) (h0 : (-2147483648) ≤ a1 ∧ a1 ≤ 2147483647) : pm_K 2 yX11_areLaws cX11_areLaws 1 (some .boolean) (fun av V => av = [(0, a1)] ∧ pm_ok 0 90 V) (fun _ V r V' => ∃ y, r = some (0, y) ∧ (0 ≤ y ∧ y ≤ 1 ∧ (y = 1 → (0 ≤ a1 ∧ a1 ≤ 69))) ∧ V = V') := by
  refine pm_MT.of (by decide) ⟨Nat.le_refl _, by decide⟩ (fun av V h => by rw [h.1]; exact (by decide : pm_words [(0, 0)] ≤ 1)) ?_
  rintro X av V0 hC - hR ⟨rfl, hV0⟩
  change pm_J X 0 [(0, (0, a1))] [] 118 V0
  refine pm_iload_n hC 0 dX11_areLaws_0 rfl ?_
  refine pm_if_lt (tgt := 28) hC ⟨by omega, by omega⟩ dX11_areLaws_1 (by decide) (fun c1 => ?_) (fun c1 => ?_)
  · skip
    refine pm_iconst (v := 0) hC dX11_areLaws_28 ?_
    exact pm_iret hC hR (pm_narZ (by omega)) ⟨0, rfl, ⟨by omega, by omega, by omega⟩, rfl⟩ dX11_areLaws_29
  · skip
    refine pm_iload_n hC 0 dX11_areLaws_4 rfl ?_
    refine pm_bipush (v := 10) hC dX11_areLaws_5 (by decide) ?_
    refine pm_idiv hC ⟨by omega, by omega, by omega⟩ ⟨by decide, by decide, by decide⟩ dX11_areLaws_7 ?_
    refine pm_callS (as := [(0, (a1 / 10))]) (st := []) hC (c_X11_isLaw (a1 / 10) ⟨by omega, by omega⟩) lm_X11_262 ls_X11_isLaw (by decide) (by decide) rfl rfl (Nat.le_of_ble_eq_true rfl) ⟨Nat.le_refl _, Or.inl rfl⟩ dX11_areLaws_8 ⟨rfl, hV0⟩ (fun r2 V3 hp4 => ?_)
    obtain ⟨y5, rfl, b6, rfl⟩ := hp4
    change pm_J X 11 [(0, (0, a1))] [(0, y5)] 118 V0
    refine pm_if_eq (tgt := 28) hC ⟨by omega, by omega⟩ dX11_areLaws_11 (by decide) (fun c7 => ?_) (fun c7 => ?_)
    · skip
      refine pm_iconst (v := 0) hC dX11_areLaws_28 ?_
      exact pm_iret hC hR (pm_narZ (by omega)) ⟨0, rfl, ⟨by omega, by omega, by omega⟩, rfl⟩ dX11_areLaws_29
    · skip
      refine pm_iload_n hC 0 dX11_areLaws_14 rfl ?_
      refine pm_bipush (v := 10) hC dX11_areLaws_15 (by decide) ?_
      refine pm_irem hC ⟨by omega, by omega, by omega⟩ ⟨by decide, by decide, by decide⟩ dX11_areLaws_17 ?_
      refine pm_callS (as := [(0, (a1 % 10))]) (st := []) hC (c_X11_isLaw (a1 % 10) ⟨by omega, by omega⟩) lm_X11_262 ls_X11_isLaw (by decide) (by decide) rfl rfl (Nat.le_of_ble_eq_true rfl) ⟨Nat.le_refl _, Or.inl rfl⟩ dX11_areLaws_18 ⟨rfl, hV0⟩ (fun r8 V9 hp10 => ?_)
      obtain ⟨y11, rfl, b12, rfl⟩ := hp10
      change pm_J X 21 [(0, (0, a1))] [(0, y11)] 118 V0
      refine pm_if_eq (tgt := 28) hC ⟨by omega, by omega⟩ dX11_areLaws_21 (by decide) (fun c13 => ?_) (fun c13 => ?_)
      · skip
        refine pm_iconst (v := 0) hC dX11_areLaws_28 ?_
        exact pm_iret hC hR (pm_narZ (by omega)) ⟨0, rfl, ⟨by omega, by omega, by omega⟩, rfl⟩ dX11_areLaws_29
      · skip
        refine pm_iconst (v := 1) hC dX11_areLaws_24 ?_
        refine pm_goto (tgt := 29) hC dX11_areLaws_25 (by decide) ?_
        exact pm_iret hC hR (pm_narZ (by omega)) ⟨1, rfl, ⟨by omega, by omega, by omega⟩, rfl⟩ dX11_areLaws_29
set_option maxHeartbeats 4000000 in
set_option maxRecDepth 100000 in
theorem c_X10_partedBy_73 (a1 a2 : Int) (h0 : (-2147483648) ≤ a1 ∧ a1 ≤ 2147483647) (h1 : (-2147483648) ≤ a2 ∧ a2 ≤ 2147483647) : pm_K 5 yX10_partedBy cX10_partedBy 9 (some .int) (fun av V => av = [(3, 73), (0, a1), (0, a2)] ∧ pm_ok 0 90 V) (fun _ V r V' => ∃ y, r = some (0, y) ∧ ((-2147483648) ≤ y ∧ y ≤ 2147483647) ∧ pm_ok 0 90 V' ∧ pm_fr [73, 76, 77] V V') := by
  refine pm_MT.of (by decide) ⟨Nat.le_refl _, by decide⟩ (fun av V h => by rw [h.1]; exact (by decide : pm_words [(3, 0), (0, 0), (0, 0)] ≤ 9)) ?_
  rintro X av V0 hC - hR ⟨rfl, hV0⟩
  change pm_J X 0 [(0, (3, 73)), (1, (0, a1)), (2, (0, a2))] [] 118 V0
  refine pm_aload_n hC 0 (by decide) dX10_partedBy_0 rfl ?_
  refine pm_iload_n hC 1 dX10_partedBy_1 rfl ?_
  refine pm_callV (ci := 10) (as := [(0, a1)]) (st := []) hC 73 (c_X10_weigh_73 a1 ⟨by omega, by omega⟩) lm_X10_148 li_X10_weigh (by decide) (by decide) rfl rfl rfl (by decide) rfl rfl (Nat.le_of_ble_eq_true rfl) ⟨Nat.le_refl _, Or.inl rfl⟩ dX10_partedBy_2 ⟨rfl, hV0⟩ (fun r1 V2 hp3 => ?_)
  obtain ⟨rfl, hV4, hF5⟩ := hp3
  change pm_J X 5 [(0, (3, 73)), (1, (0, a1)), (2, (0, a2))] [] 118 V2
  have hF6 := pm_fr.tr (pm_fr.rf (ws := [73, 76, 77]) (V := V0)) hF5 (by decide)
  refine pm_aload_n hC 0 (by decide) dX10_partedBy_5 rfl ?_
  rcases hV4.get2 73 13 (lo := 76) (hi := 77) (by decide) (by decide) rfl with e7 | e7
  · skip
    refine pm_getf (v := 76) hC 73 fl_X10_50 rfl rfl (by decide) rfl e7 dX10_partedBy_6 ?_
    refine pm_astore_n (lv' := [(3, (3, 76)), (0, (3, 73)), (1, (0, a1)), (2, (0, a2))]) hC (by decide) dX10_partedBy_9 (by decide) rfl ?_
    refine pm_aload_n hC 1 (by decide) dX10_partedBy_10 rfl ?_
    refine pm_aload_n hC 1 (by decide) dX10_partedBy_11 rfl ?_
    rcases hV4.get2 73 15 (lo := 76) (hi := 77) (by decide) (by decide) rfl with e8 | e8
    · skip
      refine pm_getf (v := 76) hC 73 fl_X10_56 rfl rfl (by decide) rfl e8 dX10_partedBy_12 ?_
      refine pm_putf hC 73 fl_X10_50 rfl rfl rfl (by decide) rfl trivial dX10_partedBy_15 ?_
      refine pm_aload_n hC 1 (by decide) dX10_partedBy_18 rfl ?_
      refine pm_aload_n hC 0 (by decide) dX10_partedBy_19 rfl ?_
      refine pm_putf hC 73 fl_X10_56 rfl rfl rfl (by decide) rfl trivial dX10_partedBy_20 ?_
      refine pm_aload_n hC 1 (by decide) dX10_partedBy_23 rfl ?_
      obtain ⟨y9, e10⟩ : ∃ y, V2 73 14 = y := ⟨_, rfl⟩
      have b11 := hV4.get 73 14 (lo := (-9223372036854775808)) (hi := 9223372036854775807) (by decide) (by decide) rfl
      rw [e10] at b11
      refine pm_getf (v := y9) hC 73 fl_X10_53 rfl rfl (by decide) rfl e10 dX10_partedBy_24 ?_
      refine pm_lstore (lv' := [(4, (1, y9)), (3, (3, 76)), (0, (3, 73)), (1, (0, a1)), (2, (0, a2))]) hC dX10_partedBy_27 (by decide) rfl ?_
      refine pm_aload_n hC 2 (by decide) dX10_partedBy_29 rfl ?_
      refine pm_iload_n hC 4 dX10_partedBy_30 rfl ?_
      refine pm_callV (ci := 10) (as := [(0, a2)]) (st := []) hC 73 (c_X10_weigh_73 a2 ⟨by omega, by omega⟩) lm_X10_148 li_X10_weigh (by decide) (by decide) rfl rfl rfl (by decide) rfl rfl (Nat.le_of_ble_eq_true rfl) ⟨Nat.le_refl _, Or.inl rfl⟩ dX10_partedBy_31 ⟨rfl, ((hV4.put2 73 13 (x := 76) (lo := 76) (hi := 77) rfl ⟨by omega, by decide⟩).put2 73 15 (x := 76) (lo := 76) (hi := 77) rfl ⟨by omega, by decide⟩)⟩ (fun r12 V13 hp14 => ?_)
      obtain ⟨rfl, hV15, hF16⟩ := hp14
      change pm_J X 34 [(4, (1, y9)), (3, (3, 76)), (0, (3, 73)), (1, (0, a1)), (2, (0, a2))] [] 118 V13
      have hF17 := pm_fr.tr ((hF6.up 73 13 76 rfl).up 73 15 76 rfl) hF16 (by decide)
      refine pm_lconst (x := 0) hC dX10_partedBy_34 rfl ?_
      refine pm_lstore (lv' := [(6, (1, 0)), (4, (1, y9)), (3, (3, 76)), (0, (3, 73)), (1, (0, a1)), (2, (0, a2))]) hC dX10_partedBy_35 (by decide) rfl ?_
      refine pm_iconst (v := 0) hC dX10_partedBy_37 ?_
      refine pm_istore (lv' := [(8, (0, 0)), (6, (1, 0)), (4, (1, y9)), (3, (3, 76)), (0, (3, 73)), (1, (0, a1)), (2, (0, a2))]) hC dX10_partedBy_38 (by decide) rfl ?_
      have L22 : ∀ (N24 : Nat) (x18 : Int) (x20 : Int), ((-9223372036854775808) ≤ x18 ∧ x18 ≤ 9223372036854775807) → (0 ≤ x20 ∧ x20 ≤ 9) → (Int.toNat (9 - x20)) = N24 → pm_J X 40 [(0, (3, 73)), (1, (0, a1)), (2, (0, a2)), (3, (3, 76)), (4, (1, y9)), (6, (1, x18)), (8, (0, x20))] [] 118 V13 := by
        intro N24
        induction N24 using Nat.strongRecOn with
        | _ N24 ih25 =>
        intro x18 x20 b19 b21 hm23
        refine pm_iload hC 6 dX10_partedBy_40 rfl ?_
        refine pm_aload_n hC 0 (by decide) dX10_partedBy_42 rfl ?_
        rcases hV15.get2 73 0 (lo := 45) (hi := 51) (by decide) (by decide) rfl with e26 | e26
        · skip
          refine pm_getf (v := 45) hC 73 fl_X10_59 rfl rfl (by decide) rfl e26 dX10_partedBy_43 ?_
          obtain ⟨y27, e28⟩ : ∃ y, V13 45 0 = y := ⟨_, rfl⟩
          have b29 := hV15.get 45 0 (lo := 0) (hi := 9) (by decide) (by decide) rfl
          rw [e28] at b29
          refine pm_getf (v := y27) hC 45 fl_X10_79 rfl rfl (by decide) rfl e28 dX10_partedBy_46 ?_
          refine pm_icmp_ge (tgt := 89) hC ⟨by omega, by omega⟩ ⟨by omega, by omega⟩ dX10_partedBy_49 (by decide) (fun c30 => ?_) (fun c30 => ?_)
          · skip
            refine pm_lload hC 5 dX10_partedBy_89 rfl ?_
            refine pm_ldc2 (v := 2) hC 5038 dX10_partedBy_91 (by decide +kernel) ?_
            refine pm_aload_n hC 0 (by decide) dX10_partedBy_94 rfl ?_
            obtain ⟨y31, e32⟩ : ∃ y, V13 73 14 = y := ⟨_, rfl⟩
            have b33 := hV15.get 73 14 (lo := (-9223372036854775808)) (hi := 9223372036854775807) (by decide) (by decide) rfl
            rw [e32] at b33
            refine pm_getf (v := y31) hC 73 fl_X10_53 rfl rfl (by decide) rfl e32 dX10_partedBy_95 ?_
            refine pm_lmul hC dX10_partedBy_98 ?_
            refine pm_someL hC (fun y34 b35 => ?_)
            have b35 := And.intro b35.1 b35.2
            refine pm_lload hC 4 dX10_partedBy_99 rfl ?_
            refine pm_lmul hC dX10_partedBy_101 ?_
            refine pm_someL hC (fun y36 b37 => ?_)
            have b37 := And.intro b37.1 b37.2
            refine pm_callSN (as := [(1, x18), (1, y36)]) (st := []) hC (c_X11_ofThousand x18 y36 ⟨by omega, by omega⟩ ⟨by omega, by omega⟩) lm_X10_141 ls_X11_ofThousand (by decide) (by decide) rfl rfl (Nat.le_of_ble_eq_true rfl) ⟨Nat.le_refl _, Or.inl rfl⟩ dX10_partedBy_102 ⟨rfl, hV15⟩ (fun r38 V39 hp40 => ?_)
            obtain ⟨y41, rfl, b42, rfl⟩ := hp40
            change pm_J X 105 [(0, (3, 73)), (1, (0, a1)), (2, (0, a2)), (3, (3, 76)), (4, (1, y9)), (6, (1, x18)), (8, (0, x20))] [(0, y41)] 118 V13
            exact pm_iret hC hR pm_nar0 ⟨y41, rfl, ⟨by omega, by omega⟩, hV15, hF17⟩ dX10_partedBy_105
          · skip
            refine pm_lload hC 5 dX10_partedBy_52 rfl ?_
            refine pm_aload_n hC 0 (by decide) dX10_partedBy_54 rfl ?_
            rcases hV15.get2 73 13 (lo := 76) (hi := 77) (by decide) (by decide) rfl with e43 | e43
            · skip
              refine pm_getf (v := 76) hC 73 fl_X10_50 rfl rfl (by decide) rfl e43 dX10_partedBy_55 ?_
              refine pm_iload hC 6 dX10_partedBy_58 rfl ?_
              obtain ⟨y44, e45⟩ : ∃ y, V13 76 (x20 : Int).toNat = y := ⟨_, rfl⟩
              have b46 := hV15.get 76 (x20 : Int).toNat (lo := (-9223372036854775808)) (hi := 9223372036854775807) (by decide) (show _ < 9 by omega) rfl
              rw [e45] at b46
              refine pm_laload (len := 9) (v := y44) hC 76 rfl rfl (by decide) ⟨by omega, by omega⟩ (by decide) e45 dX10_partedBy_60 ?_
              refine pm_lload hC 4 dX10_partedBy_61 rfl ?_
              refine pm_lmul hC dX10_partedBy_63 ?_
              refine pm_someL hC (fun y47 b48 => ?_)
              have b48 := And.intro b48.1 b48.2
              refine pm_aload_n hC 0 (by decide) dX10_partedBy_64 rfl ?_
              rcases hV15.get2 73 15 (lo := 76) (hi := 77) (by decide) (by decide) rfl with e49 | e49
              · skip
                refine pm_getf (v := 76) hC 73 fl_X10_56 rfl rfl (by decide) rfl e49 dX10_partedBy_65 ?_
                refine pm_iload hC 6 dX10_partedBy_68 rfl ?_
                refine pm_laload (len := 9) (v := y44) hC 76 rfl rfl (by decide) ⟨by omega, by omega⟩ (by decide) e45 dX10_partedBy_70 ?_
                refine pm_aload_n hC 0 (by decide) dX10_partedBy_71 rfl ?_
                obtain ⟨y50, e51⟩ : ∃ y, V13 73 14 = y := ⟨_, rfl⟩
                have b52 := hV15.get 73 14 (lo := (-9223372036854775808)) (hi := 9223372036854775807) (by decide) (by decide) rfl
                rw [e51] at b52
                refine pm_getf (v := y50) hC 73 fl_X10_53 rfl rfl (by decide) rfl e51 dX10_partedBy_72 ?_
                refine pm_lmul hC dX10_partedBy_75 ?_
                refine pm_someL hC (fun y53 b54 => ?_)
                have b54 := And.intro b54.1 b54.2
                refine pm_lsub hC dX10_partedBy_76 ?_
                refine pm_someL hC (fun y55 b56 => ?_)
                have b56 := And.intro b56.1 b56.2
                refine pm_mabsL hC 5035 5036 1018 5037 ⟨by omega, by omega⟩ (by decide) wL_X10_151 wS_mabsL wI_math wC_mabsL (Nat.le_of_ble_eq_true rfl) dX10_partedBy_77 (fun y57 b58 => ?_)
                have b58 := And.intro b58.1.1 (And.intro b58.1.2 b58.2)
                refine pm_ladd hC dX10_partedBy_80 ?_
                refine pm_someL hC (fun y59 b60 => ?_)
                have b60 := And.intro b60.1 b60.2
                refine pm_lstore (lv' := [(6, (1, y59)), (0, (3, 73)), (1, (0, a1)), (2, (0, a2)), (3, (3, 76)), (4, (1, y9)), (8, (0, x20))]) hC dX10_partedBy_81 (by decide) rfl ?_
                obtain ⟨x61, ei62⟩ : ∃ y : Int, x20 + 1 = y := ⟨_, rfl⟩
                refine pm_iinc (y := x61) (lv' := [(8, (0, x61)), (6, (1, y59)), (0, (3, 73)), (1, (0, a1)), (2, (0, a2)), (3, (3, 76)), (4, (1, y9))]) hC 6 dX10_partedBy_83 (by decide) rfl ei62 rfl ?_
                refine pm_goto (tgt := 40) hC dX10_partedBy_86 (by decide) ?_
                refine pm_lvsub [2, 3, 4, 5, 6, 1, 0] (lv' := [(0, (3, 73)), (1, (0, a1)), (2, (0, a2)), (3, (3, 76)), (4, (1, y9)), (6, (1, y59)), (8, (0, x61))]) rfl ?_
                exact ih25 _ (by omega) y59 x61 ⟨by omega, by omega⟩ ⟨by omega, by omega⟩ rfl
              · skip
                refine pm_getf (v := 77) hC 73 fl_X10_56 rfl rfl (by decide) rfl e49 dX10_partedBy_65 ?_
                refine pm_iload hC 6 dX10_partedBy_68 rfl ?_
                obtain ⟨y63, e64⟩ : ∃ y, V13 77 (x20 : Int).toNat = y := ⟨_, rfl⟩
                have b65 := hV15.get 77 (x20 : Int).toNat (lo := (-9223372036854775808)) (hi := 9223372036854775807) (by decide) (show _ < 9 by omega) rfl
                rw [e64] at b65
                refine pm_laload (len := 9) (v := y63) hC 77 rfl rfl (by decide) ⟨by omega, by omega⟩ (by decide) e64 dX10_partedBy_70 ?_
                refine pm_aload_n hC 0 (by decide) dX10_partedBy_71 rfl ?_
                obtain ⟨y66, e67⟩ : ∃ y, V13 73 14 = y := ⟨_, rfl⟩
                have b68 := hV15.get 73 14 (lo := (-9223372036854775808)) (hi := 9223372036854775807) (by decide) (by decide) rfl
                rw [e67] at b68
                refine pm_getf (v := y66) hC 73 fl_X10_53 rfl rfl (by decide) rfl e67 dX10_partedBy_72 ?_
                refine pm_lmul hC dX10_partedBy_75 ?_
                refine pm_someL hC (fun y69 b70 => ?_)
                have b70 := And.intro b70.1 b70.2
                refine pm_lsub hC dX10_partedBy_76 ?_
                refine pm_someL hC (fun y71 b72 => ?_)
                have b72 := And.intro b72.1 b72.2
                refine pm_mabsL hC 5035 5036 1018 5037 ⟨by omega, by omega⟩ (by decide) wL_X10_151 wS_mabsL wI_math wC_mabsL (Nat.le_of_ble_eq_true rfl) dX10_partedBy_77 (fun y73 b74 => ?_)
                have b74 := And.intro b74.1.1 (And.intro b74.1.2 b74.2)
                refine pm_ladd hC dX10_partedBy_80 ?_
                refine pm_someL hC (fun y75 b76 => ?_)
                have b76 := And.intro b76.1 b76.2
                refine pm_lstore (lv' := [(6, (1, y75)), (0, (3, 73)), (1, (0, a1)), (2, (0, a2)), (3, (3, 76)), (4, (1, y9)), (8, (0, x20))]) hC dX10_partedBy_81 (by decide) rfl ?_
                obtain ⟨x77, ei78⟩ : ∃ y : Int, x20 + 1 = y := ⟨_, rfl⟩
                refine pm_iinc (y := x77) (lv' := [(8, (0, x77)), (6, (1, y75)), (0, (3, 73)), (1, (0, a1)), (2, (0, a2)), (3, (3, 76)), (4, (1, y9))]) hC 6 dX10_partedBy_83 (by decide) rfl ei78 rfl ?_
                refine pm_goto (tgt := 40) hC dX10_partedBy_86 (by decide) ?_
                refine pm_lvsub [2, 3, 4, 5, 6, 1, 0] (lv' := [(0, (3, 73)), (1, (0, a1)), (2, (0, a2)), (3, (3, 76)), (4, (1, y9)), (6, (1, y75)), (8, (0, x77))]) rfl ?_
                exact ih25 _ (by omega) y75 x77 ⟨by omega, by omega⟩ ⟨by omega, by omega⟩ rfl
            · skip
              refine pm_getf (v := 77) hC 73 fl_X10_50 rfl rfl (by decide) rfl e43 dX10_partedBy_55 ?_
              refine pm_iload hC 6 dX10_partedBy_58 rfl ?_
              obtain ⟨y79, e80⟩ : ∃ y, V13 77 (x20 : Int).toNat = y := ⟨_, rfl⟩
              have b81 := hV15.get 77 (x20 : Int).toNat (lo := (-9223372036854775808)) (hi := 9223372036854775807) (by decide) (show _ < 9 by omega) rfl
              rw [e80] at b81
              refine pm_laload (len := 9) (v := y79) hC 77 rfl rfl (by decide) ⟨by omega, by omega⟩ (by decide) e80 dX10_partedBy_60 ?_
              refine pm_lload hC 4 dX10_partedBy_61 rfl ?_
              refine pm_lmul hC dX10_partedBy_63 ?_
              refine pm_someL hC (fun y82 b83 => ?_)
              have b83 := And.intro b83.1 b83.2
              refine pm_aload_n hC 0 (by decide) dX10_partedBy_64 rfl ?_
              rcases hV15.get2 73 15 (lo := 76) (hi := 77) (by decide) (by decide) rfl with e84 | e84
              · skip
                refine pm_getf (v := 76) hC 73 fl_X10_56 rfl rfl (by decide) rfl e84 dX10_partedBy_65 ?_
                refine pm_iload hC 6 dX10_partedBy_68 rfl ?_
                obtain ⟨y85, e86⟩ : ∃ y, V13 76 (x20 : Int).toNat = y := ⟨_, rfl⟩
                have b87 := hV15.get 76 (x20 : Int).toNat (lo := (-9223372036854775808)) (hi := 9223372036854775807) (by decide) (show _ < 9 by omega) rfl
                rw [e86] at b87
                refine pm_laload (len := 9) (v := y85) hC 76 rfl rfl (by decide) ⟨by omega, by omega⟩ (by decide) e86 dX10_partedBy_70 ?_
                refine pm_aload_n hC 0 (by decide) dX10_partedBy_71 rfl ?_
                obtain ⟨y88, e89⟩ : ∃ y, V13 73 14 = y := ⟨_, rfl⟩
                have b90 := hV15.get 73 14 (lo := (-9223372036854775808)) (hi := 9223372036854775807) (by decide) (by decide) rfl
                rw [e89] at b90
                refine pm_getf (v := y88) hC 73 fl_X10_53 rfl rfl (by decide) rfl e89 dX10_partedBy_72 ?_
                refine pm_lmul hC dX10_partedBy_75 ?_
                refine pm_someL hC (fun y91 b92 => ?_)
                have b92 := And.intro b92.1 b92.2
                refine pm_lsub hC dX10_partedBy_76 ?_
                refine pm_someL hC (fun y93 b94 => ?_)
                have b94 := And.intro b94.1 b94.2
                refine pm_mabsL hC 5035 5036 1018 5037 ⟨by omega, by omega⟩ (by decide) wL_X10_151 wS_mabsL wI_math wC_mabsL (Nat.le_of_ble_eq_true rfl) dX10_partedBy_77 (fun y95 b96 => ?_)
                have b96 := And.intro b96.1.1 (And.intro b96.1.2 b96.2)
                refine pm_ladd hC dX10_partedBy_80 ?_
                refine pm_someL hC (fun y97 b98 => ?_)
                have b98 := And.intro b98.1 b98.2
                refine pm_lstore (lv' := [(6, (1, y97)), (0, (3, 73)), (1, (0, a1)), (2, (0, a2)), (3, (3, 76)), (4, (1, y9)), (8, (0, x20))]) hC dX10_partedBy_81 (by decide) rfl ?_
                obtain ⟨x99, ei100⟩ : ∃ y : Int, x20 + 1 = y := ⟨_, rfl⟩
                refine pm_iinc (y := x99) (lv' := [(8, (0, x99)), (6, (1, y97)), (0, (3, 73)), (1, (0, a1)), (2, (0, a2)), (3, (3, 76)), (4, (1, y9))]) hC 6 dX10_partedBy_83 (by decide) rfl ei100 rfl ?_
                refine pm_goto (tgt := 40) hC dX10_partedBy_86 (by decide) ?_
                refine pm_lvsub [2, 3, 4, 5, 6, 1, 0] (lv' := [(0, (3, 73)), (1, (0, a1)), (2, (0, a2)), (3, (3, 76)), (4, (1, y9)), (6, (1, y97)), (8, (0, x99))]) rfl ?_
                exact ih25 _ (by omega) y97 x99 ⟨by omega, by omega⟩ ⟨by omega, by omega⟩ rfl
              · skip
                refine pm_getf (v := 77) hC 73 fl_X10_56 rfl rfl (by decide) rfl e84 dX10_partedBy_65 ?_
                refine pm_iload hC 6 dX10_partedBy_68 rfl ?_
                refine pm_laload (len := 9) (v := y79) hC 77 rfl rfl (by decide) ⟨by omega, by omega⟩ (by decide) e80 dX10_partedBy_70 ?_
                refine pm_aload_n hC 0 (by decide) dX10_partedBy_71 rfl ?_
                obtain ⟨y101, e102⟩ : ∃ y, V13 73 14 = y := ⟨_, rfl⟩
                have b103 := hV15.get 73 14 (lo := (-9223372036854775808)) (hi := 9223372036854775807) (by decide) (by decide) rfl
                rw [e102] at b103
                refine pm_getf (v := y101) hC 73 fl_X10_53 rfl rfl (by decide) rfl e102 dX10_partedBy_72 ?_
                refine pm_lmul hC dX10_partedBy_75 ?_
                refine pm_someL hC (fun y104 b105 => ?_)
                have b105 := And.intro b105.1 b105.2
                refine pm_lsub hC dX10_partedBy_76 ?_
                refine pm_someL hC (fun y106 b107 => ?_)
                have b107 := And.intro b107.1 b107.2
                refine pm_mabsL hC 5035 5036 1018 5037 ⟨by omega, by omega⟩ (by decide) wL_X10_151 wS_mabsL wI_math wC_mabsL (Nat.le_of_ble_eq_true rfl) dX10_partedBy_77 (fun y108 b109 => ?_)
                have b109 := And.intro b109.1.1 (And.intro b109.1.2 b109.2)
                refine pm_ladd hC dX10_partedBy_80 ?_
                refine pm_someL hC (fun y110 b111 => ?_)
                have b111 := And.intro b111.1 b111.2
                refine pm_lstore (lv' := [(6, (1, y110)), (0, (3, 73)), (1, (0, a1)), (2, (0, a2)), (3, (3, 76)), (4, (1, y9)), (8, (0, x20))]) hC dX10_partedBy_81 (by decide) rfl ?_
                obtain ⟨x112, ei113⟩ : ∃ y : Int, x20 + 1 = y := ⟨_, rfl⟩
                refine pm_iinc (y := x112) (lv' := [(8, (0, x112)), (6, (1, y110)), (0, (3, 73)), (1, (0, a1)), (2, (0, a2)), (3, (3, 76)), (4, (1, y9))]) hC 6 dX10_partedBy_83 (by decide) rfl ei113 rfl ?_
                refine pm_goto (tgt := 40) hC dX10_partedBy_86 (by decide) ?_
                refine pm_lvsub [2, 3, 4, 5, 6, 1, 0] (lv' := [(0, (3, 73)), (1, (0, a1)), (2, (0, a2)), (3, (3, 76)), (4, (1, y9)), (6, (1, y110)), (8, (0, x112))]) rfl ?_
                exact ih25 _ (by omega) y110 x112 ⟨by omega, by omega⟩ ⟨by omega, by omega⟩ rfl
        · skip
          refine pm_getf (v := 51) hC 73 fl_X10_59 rfl rfl (by decide) rfl e26 dX10_partedBy_43 ?_
          obtain ⟨y114, e115⟩ : ∃ y, V13 51 0 = y := ⟨_, rfl⟩
          have b116 := hV15.get 51 0 (lo := 0) (hi := 9) (by decide) (by decide) rfl
          rw [e115] at b116
          refine pm_getf (v := y114) hC 51 fl_X10_79 rfl rfl (by decide) rfl e115 dX10_partedBy_46 ?_
          refine pm_icmp_ge (tgt := 89) hC ⟨by omega, by omega⟩ ⟨by omega, by omega⟩ dX10_partedBy_49 (by decide) (fun c117 => ?_) (fun c117 => ?_)
          · skip
            refine pm_lload hC 5 dX10_partedBy_89 rfl ?_
            refine pm_ldc2 (v := 2) hC 5038 dX10_partedBy_91 (by decide +kernel) ?_
            refine pm_aload_n hC 0 (by decide) dX10_partedBy_94 rfl ?_
            obtain ⟨y118, e119⟩ : ∃ y, V13 73 14 = y := ⟨_, rfl⟩
            have b120 := hV15.get 73 14 (lo := (-9223372036854775808)) (hi := 9223372036854775807) (by decide) (by decide) rfl
            rw [e119] at b120
            refine pm_getf (v := y118) hC 73 fl_X10_53 rfl rfl (by decide) rfl e119 dX10_partedBy_95 ?_
            refine pm_lmul hC dX10_partedBy_98 ?_
            refine pm_someL hC (fun y121 b122 => ?_)
            have b122 := And.intro b122.1 b122.2
            refine pm_lload hC 4 dX10_partedBy_99 rfl ?_
            refine pm_lmul hC dX10_partedBy_101 ?_
            refine pm_someL hC (fun y123 b124 => ?_)
            have b124 := And.intro b124.1 b124.2
            refine pm_callSN (as := [(1, x18), (1, y123)]) (st := []) hC (c_X11_ofThousand x18 y123 ⟨by omega, by omega⟩ ⟨by omega, by omega⟩) lm_X10_141 ls_X11_ofThousand (by decide) (by decide) rfl rfl (Nat.le_of_ble_eq_true rfl) ⟨Nat.le_refl _, Or.inl rfl⟩ dX10_partedBy_102 ⟨rfl, hV15⟩ (fun r125 V126 hp127 => ?_)
            obtain ⟨y128, rfl, b129, rfl⟩ := hp127
            change pm_J X 105 [(0, (3, 73)), (1, (0, a1)), (2, (0, a2)), (3, (3, 76)), (4, (1, y9)), (6, (1, x18)), (8, (0, x20))] [(0, y128)] 118 V13
            exact pm_iret hC hR pm_nar0 ⟨y128, rfl, ⟨by omega, by omega⟩, hV15, hF17⟩ dX10_partedBy_105
          · skip
            refine pm_lload hC 5 dX10_partedBy_52 rfl ?_
            refine pm_aload_n hC 0 (by decide) dX10_partedBy_54 rfl ?_
            rcases hV15.get2 73 13 (lo := 76) (hi := 77) (by decide) (by decide) rfl with e130 | e130
            · skip
              refine pm_getf (v := 76) hC 73 fl_X10_50 rfl rfl (by decide) rfl e130 dX10_partedBy_55 ?_
              refine pm_iload hC 6 dX10_partedBy_58 rfl ?_
              obtain ⟨y131, e132⟩ : ∃ y, V13 76 (x20 : Int).toNat = y := ⟨_, rfl⟩
              have b133 := hV15.get 76 (x20 : Int).toNat (lo := (-9223372036854775808)) (hi := 9223372036854775807) (by decide) (show _ < 9 by omega) rfl
              rw [e132] at b133
              refine pm_laload (len := 9) (v := y131) hC 76 rfl rfl (by decide) ⟨by omega, by omega⟩ (by decide) e132 dX10_partedBy_60 ?_
              refine pm_lload hC 4 dX10_partedBy_61 rfl ?_
              refine pm_lmul hC dX10_partedBy_63 ?_
              refine pm_someL hC (fun y134 b135 => ?_)
              have b135 := And.intro b135.1 b135.2
              refine pm_aload_n hC 0 (by decide) dX10_partedBy_64 rfl ?_
              rcases hV15.get2 73 15 (lo := 76) (hi := 77) (by decide) (by decide) rfl with e136 | e136
              · skip
                refine pm_getf (v := 76) hC 73 fl_X10_56 rfl rfl (by decide) rfl e136 dX10_partedBy_65 ?_
                refine pm_iload hC 6 dX10_partedBy_68 rfl ?_
                refine pm_laload (len := 9) (v := y131) hC 76 rfl rfl (by decide) ⟨by omega, by omega⟩ (by decide) e132 dX10_partedBy_70 ?_
                refine pm_aload_n hC 0 (by decide) dX10_partedBy_71 rfl ?_
                obtain ⟨y137, e138⟩ : ∃ y, V13 73 14 = y := ⟨_, rfl⟩
                have b139 := hV15.get 73 14 (lo := (-9223372036854775808)) (hi := 9223372036854775807) (by decide) (by decide) rfl
                rw [e138] at b139
                refine pm_getf (v := y137) hC 73 fl_X10_53 rfl rfl (by decide) rfl e138 dX10_partedBy_72 ?_
                refine pm_lmul hC dX10_partedBy_75 ?_
                refine pm_someL hC (fun y140 b141 => ?_)
                have b141 := And.intro b141.1 b141.2
                refine pm_lsub hC dX10_partedBy_76 ?_
                refine pm_someL hC (fun y142 b143 => ?_)
                have b143 := And.intro b143.1 b143.2
                refine pm_mabsL hC 5035 5036 1018 5037 ⟨by omega, by omega⟩ (by decide) wL_X10_151 wS_mabsL wI_math wC_mabsL (Nat.le_of_ble_eq_true rfl) dX10_partedBy_77 (fun y144 b145 => ?_)
                have b145 := And.intro b145.1.1 (And.intro b145.1.2 b145.2)
                refine pm_ladd hC dX10_partedBy_80 ?_
                refine pm_someL hC (fun y146 b147 => ?_)
                have b147 := And.intro b147.1 b147.2
                refine pm_lstore (lv' := [(6, (1, y146)), (0, (3, 73)), (1, (0, a1)), (2, (0, a2)), (3, (3, 76)), (4, (1, y9)), (8, (0, x20))]) hC dX10_partedBy_81 (by decide) rfl ?_
                obtain ⟨x148, ei149⟩ : ∃ y : Int, x20 + 1 = y := ⟨_, rfl⟩
                refine pm_iinc (y := x148) (lv' := [(8, (0, x148)), (6, (1, y146)), (0, (3, 73)), (1, (0, a1)), (2, (0, a2)), (3, (3, 76)), (4, (1, y9))]) hC 6 dX10_partedBy_83 (by decide) rfl ei149 rfl ?_
                refine pm_goto (tgt := 40) hC dX10_partedBy_86 (by decide) ?_
                refine pm_lvsub [2, 3, 4, 5, 6, 1, 0] (lv' := [(0, (3, 73)), (1, (0, a1)), (2, (0, a2)), (3, (3, 76)), (4, (1, y9)), (6, (1, y146)), (8, (0, x148))]) rfl ?_
                exact ih25 _ (by omega) y146 x148 ⟨by omega, by omega⟩ ⟨by omega, by omega⟩ rfl
              · skip
                refine pm_getf (v := 77) hC 73 fl_X10_56 rfl rfl (by decide) rfl e136 dX10_partedBy_65 ?_
                refine pm_iload hC 6 dX10_partedBy_68 rfl ?_
                obtain ⟨y150, e151⟩ : ∃ y, V13 77 (x20 : Int).toNat = y := ⟨_, rfl⟩
                have b152 := hV15.get 77 (x20 : Int).toNat (lo := (-9223372036854775808)) (hi := 9223372036854775807) (by decide) (show _ < 9 by omega) rfl
                rw [e151] at b152
                refine pm_laload (len := 9) (v := y150) hC 77 rfl rfl (by decide) ⟨by omega, by omega⟩ (by decide) e151 dX10_partedBy_70 ?_
                refine pm_aload_n hC 0 (by decide) dX10_partedBy_71 rfl ?_
                obtain ⟨y153, e154⟩ : ∃ y, V13 73 14 = y := ⟨_, rfl⟩
                have b155 := hV15.get 73 14 (lo := (-9223372036854775808)) (hi := 9223372036854775807) (by decide) (by decide) rfl
                rw [e154] at b155
                refine pm_getf (v := y153) hC 73 fl_X10_53 rfl rfl (by decide) rfl e154 dX10_partedBy_72 ?_
                refine pm_lmul hC dX10_partedBy_75 ?_
                refine pm_someL hC (fun y156 b157 => ?_)
                have b157 := And.intro b157.1 b157.2
                refine pm_lsub hC dX10_partedBy_76 ?_
                refine pm_someL hC (fun y158 b159 => ?_)
                have b159 := And.intro b159.1 b159.2
                refine pm_mabsL hC 5035 5036 1018 5037 ⟨by omega, by omega⟩ (by decide) wL_X10_151 wS_mabsL wI_math wC_mabsL (Nat.le_of_ble_eq_true rfl) dX10_partedBy_77 (fun y160 b161 => ?_)
                have b161 := And.intro b161.1.1 (And.intro b161.1.2 b161.2)
                refine pm_ladd hC dX10_partedBy_80 ?_
                refine pm_someL hC (fun y162 b163 => ?_)
                have b163 := And.intro b163.1 b163.2
                refine pm_lstore (lv' := [(6, (1, y162)), (0, (3, 73)), (1, (0, a1)), (2, (0, a2)), (3, (3, 76)), (4, (1, y9)), (8, (0, x20))]) hC dX10_partedBy_81 (by decide) rfl ?_
                obtain ⟨x164, ei165⟩ : ∃ y : Int, x20 + 1 = y := ⟨_, rfl⟩
                refine pm_iinc (y := x164) (lv' := [(8, (0, x164)), (6, (1, y162)), (0, (3, 73)), (1, (0, a1)), (2, (0, a2)), (3, (3, 76)), (4, (1, y9))]) hC 6 dX10_partedBy_83 (by decide) rfl ei165 rfl ?_
                refine pm_goto (tgt := 40) hC dX10_partedBy_86 (by decide) ?_
                refine pm_lvsub [2, 3, 4, 5, 6, 1, 0] (lv' := [(0, (3, 73)), (1, (0, a1)), (2, (0, a2)), (3, (3, 76)), (4, (1, y9)), (6, (1, y162)), (8, (0, x164))]) rfl ?_
                exact ih25 _ (by omega) y162 x164 ⟨by omega, by omega⟩ ⟨by omega, by omega⟩ rfl
            · skip
              refine pm_getf (v := 77) hC 73 fl_X10_50 rfl rfl (by decide) rfl e130 dX10_partedBy_55 ?_
              refine pm_iload hC 6 dX10_partedBy_58 rfl ?_
              obtain ⟨y166, e167⟩ : ∃ y, V13 77 (x20 : Int).toNat = y := ⟨_, rfl⟩
              have b168 := hV15.get 77 (x20 : Int).toNat (lo := (-9223372036854775808)) (hi := 9223372036854775807) (by decide) (show _ < 9 by omega) rfl
              rw [e167] at b168
              refine pm_laload (len := 9) (v := y166) hC 77 rfl rfl (by decide) ⟨by omega, by omega⟩ (by decide) e167 dX10_partedBy_60 ?_
              refine pm_lload hC 4 dX10_partedBy_61 rfl ?_
              refine pm_lmul hC dX10_partedBy_63 ?_
              refine pm_someL hC (fun y169 b170 => ?_)
              have b170 := And.intro b170.1 b170.2
              refine pm_aload_n hC 0 (by decide) dX10_partedBy_64 rfl ?_
              rcases hV15.get2 73 15 (lo := 76) (hi := 77) (by decide) (by decide) rfl with e171 | e171
              · skip
                refine pm_getf (v := 76) hC 73 fl_X10_56 rfl rfl (by decide) rfl e171 dX10_partedBy_65 ?_
                refine pm_iload hC 6 dX10_partedBy_68 rfl ?_
                obtain ⟨y172, e173⟩ : ∃ y, V13 76 (x20 : Int).toNat = y := ⟨_, rfl⟩
                have b174 := hV15.get 76 (x20 : Int).toNat (lo := (-9223372036854775808)) (hi := 9223372036854775807) (by decide) (show _ < 9 by omega) rfl
                rw [e173] at b174
                refine pm_laload (len := 9) (v := y172) hC 76 rfl rfl (by decide) ⟨by omega, by omega⟩ (by decide) e173 dX10_partedBy_70 ?_
                refine pm_aload_n hC 0 (by decide) dX10_partedBy_71 rfl ?_
                obtain ⟨y175, e176⟩ : ∃ y, V13 73 14 = y := ⟨_, rfl⟩
                have b177 := hV15.get 73 14 (lo := (-9223372036854775808)) (hi := 9223372036854775807) (by decide) (by decide) rfl
                rw [e176] at b177
                refine pm_getf (v := y175) hC 73 fl_X10_53 rfl rfl (by decide) rfl e176 dX10_partedBy_72 ?_
                refine pm_lmul hC dX10_partedBy_75 ?_
                refine pm_someL hC (fun y178 b179 => ?_)
                have b179 := And.intro b179.1 b179.2
                refine pm_lsub hC dX10_partedBy_76 ?_
                refine pm_someL hC (fun y180 b181 => ?_)
                have b181 := And.intro b181.1 b181.2
                refine pm_mabsL hC 5035 5036 1018 5037 ⟨by omega, by omega⟩ (by decide) wL_X10_151 wS_mabsL wI_math wC_mabsL (Nat.le_of_ble_eq_true rfl) dX10_partedBy_77 (fun y182 b183 => ?_)
                have b183 := And.intro b183.1.1 (And.intro b183.1.2 b183.2)
                refine pm_ladd hC dX10_partedBy_80 ?_
                refine pm_someL hC (fun y184 b185 => ?_)
                have b185 := And.intro b185.1 b185.2
                refine pm_lstore (lv' := [(6, (1, y184)), (0, (3, 73)), (1, (0, a1)), (2, (0, a2)), (3, (3, 76)), (4, (1, y9)), (8, (0, x20))]) hC dX10_partedBy_81 (by decide) rfl ?_
                obtain ⟨x186, ei187⟩ : ∃ y : Int, x20 + 1 = y := ⟨_, rfl⟩
                refine pm_iinc (y := x186) (lv' := [(8, (0, x186)), (6, (1, y184)), (0, (3, 73)), (1, (0, a1)), (2, (0, a2)), (3, (3, 76)), (4, (1, y9))]) hC 6 dX10_partedBy_83 (by decide) rfl ei187 rfl ?_
                refine pm_goto (tgt := 40) hC dX10_partedBy_86 (by decide) ?_
                refine pm_lvsub [2, 3, 4, 5, 6, 1, 0] (lv' := [(0, (3, 73)), (1, (0, a1)), (2, (0, a2)), (3, (3, 76)), (4, (1, y9)), (6, (1, y184)), (8, (0, x186))]) rfl ?_
                exact ih25 _ (by omega) y184 x186 ⟨by omega, by omega⟩ ⟨by omega, by omega⟩ rfl
              · skip
                refine pm_getf (v := 77) hC 73 fl_X10_56 rfl rfl (by decide) rfl e171 dX10_partedBy_65 ?_
                refine pm_iload hC 6 dX10_partedBy_68 rfl ?_
                refine pm_laload (len := 9) (v := y166) hC 77 rfl rfl (by decide) ⟨by omega, by omega⟩ (by decide) e167 dX10_partedBy_70 ?_
                refine pm_aload_n hC 0 (by decide) dX10_partedBy_71 rfl ?_
                obtain ⟨y188, e189⟩ : ∃ y, V13 73 14 = y := ⟨_, rfl⟩
                have b190 := hV15.get 73 14 (lo := (-9223372036854775808)) (hi := 9223372036854775807) (by decide) (by decide) rfl
                rw [e189] at b190
                refine pm_getf (v := y188) hC 73 fl_X10_53 rfl rfl (by decide) rfl e189 dX10_partedBy_72 ?_
                refine pm_lmul hC dX10_partedBy_75 ?_
                refine pm_someL hC (fun y191 b192 => ?_)
                have b192 := And.intro b192.1 b192.2
                refine pm_lsub hC dX10_partedBy_76 ?_
                refine pm_someL hC (fun y193 b194 => ?_)
                have b194 := And.intro b194.1 b194.2
                refine pm_mabsL hC 5035 5036 1018 5037 ⟨by omega, by omega⟩ (by decide) wL_X10_151 wS_mabsL wI_math wC_mabsL (Nat.le_of_ble_eq_true rfl) dX10_partedBy_77 (fun y195 b196 => ?_)
                have b196 := And.intro b196.1.1 (And.intro b196.1.2 b196.2)
                refine pm_ladd hC dX10_partedBy_80 ?_
                refine pm_someL hC (fun y197 b198 => ?_)
                have b198 := And.intro b198.1 b198.2
                refine pm_lstore (lv' := [(6, (1, y197)), (0, (3, 73)), (1, (0, a1)), (2, (0, a2)), (3, (3, 76)), (4, (1, y9)), (8, (0, x20))]) hC dX10_partedBy_81 (by decide) rfl ?_
                obtain ⟨x199, ei200⟩ : ∃ y : Int, x20 + 1 = y := ⟨_, rfl⟩
                refine pm_iinc (y := x199) (lv' := [(8, (0, x199)), (6, (1, y197)), (0, (3, 73)), (1, (0, a1)), (2, (0, a2)), (3, (3, 76)), (4, (1, y9))]) hC 6 dX10_partedBy_83 (by decide) rfl ei200 rfl ?_
                refine pm_goto (tgt := 40) hC dX10_partedBy_86 (by decide) ?_
                refine pm_lvsub [2, 3, 4, 5, 6, 1, 0] (lv' := [(0, (3, 73)), (1, (0, a1)), (2, (0, a2)), (3, (3, 76)), (4, (1, y9)), (6, (1, y197)), (8, (0, x199))]) rfl ?_
                exact ih25 _ (by omega) y197 x199 ⟨by omega, by omega⟩ ⟨by omega, by omega⟩ rfl
      refine pm_lvsub [4, 5, 6, 3, 2, 1, 0] (lv' := [(0, (3, 73)), (1, (0, a1)), (2, (0, a2)), (3, (3, 76)), (4, (1, y9)), (6, (1, 0)), (8, (0, 0))]) rfl ?_
      exact L22 _ 0 0 ⟨by decide, by decide⟩ ⟨by decide, by decide⟩ rfl
    · skip
      refine pm_getf (v := 77) hC 73 fl_X10_56 rfl rfl (by decide) rfl e8 dX10_partedBy_12 ?_
      refine pm_putf hC 73 fl_X10_50 rfl rfl rfl (by decide) rfl trivial dX10_partedBy_15 ?_
      refine pm_aload_n hC 1 (by decide) dX10_partedBy_18 rfl ?_
      refine pm_aload_n hC 0 (by decide) dX10_partedBy_19 rfl ?_
      refine pm_putf hC 73 fl_X10_56 rfl rfl rfl (by decide) rfl trivial dX10_partedBy_20 ?_
      refine pm_aload_n hC 1 (by decide) dX10_partedBy_23 rfl ?_
      obtain ⟨y201, e202⟩ : ∃ y, V2 73 14 = y := ⟨_, rfl⟩
      have b203 := hV4.get 73 14 (lo := (-9223372036854775808)) (hi := 9223372036854775807) (by decide) (by decide) rfl
      rw [e202] at b203
      refine pm_getf (v := y201) hC 73 fl_X10_53 rfl rfl (by decide) rfl e202 dX10_partedBy_24 ?_
      refine pm_lstore (lv' := [(4, (1, y201)), (3, (3, 76)), (0, (3, 73)), (1, (0, a1)), (2, (0, a2))]) hC dX10_partedBy_27 (by decide) rfl ?_
      refine pm_aload_n hC 2 (by decide) dX10_partedBy_29 rfl ?_
      refine pm_iload_n hC 4 dX10_partedBy_30 rfl ?_
      refine pm_callV (ci := 10) (as := [(0, a2)]) (st := []) hC 73 (c_X10_weigh_73 a2 ⟨by omega, by omega⟩) lm_X10_148 li_X10_weigh (by decide) (by decide) rfl rfl rfl (by decide) rfl rfl (Nat.le_of_ble_eq_true rfl) ⟨Nat.le_refl _, Or.inl rfl⟩ dX10_partedBy_31 ⟨rfl, ((hV4.put2 73 13 (x := 77) (lo := 76) (hi := 77) rfl ⟨by omega, by decide⟩).put2 73 15 (x := 76) (lo := 76) (hi := 77) rfl ⟨by omega, by decide⟩)⟩ (fun r204 V205 hp206 => ?_)
      obtain ⟨rfl, hV207, hF208⟩ := hp206
      change pm_J X 34 [(4, (1, y201)), (3, (3, 76)), (0, (3, 73)), (1, (0, a1)), (2, (0, a2))] [] 118 V205
      have hF209 := pm_fr.tr ((hF6.up 73 13 77 rfl).up 73 15 76 rfl) hF208 (by decide)
      refine pm_lconst (x := 0) hC dX10_partedBy_34 rfl ?_
      refine pm_lstore (lv' := [(6, (1, 0)), (4, (1, y201)), (3, (3, 76)), (0, (3, 73)), (1, (0, a1)), (2, (0, a2))]) hC dX10_partedBy_35 (by decide) rfl ?_
      refine pm_iconst (v := 0) hC dX10_partedBy_37 ?_
      refine pm_istore (lv' := [(8, (0, 0)), (6, (1, 0)), (4, (1, y201)), (3, (3, 76)), (0, (3, 73)), (1, (0, a1)), (2, (0, a2))]) hC dX10_partedBy_38 (by decide) rfl ?_
      have L214 : ∀ (N216 : Nat) (x210 : Int) (x212 : Int), ((-9223372036854775808) ≤ x210 ∧ x210 ≤ 9223372036854775807) → (0 ≤ x212 ∧ x212 ≤ 9) → (Int.toNat (9 - x212)) = N216 → pm_J X 40 [(0, (3, 73)), (1, (0, a1)), (2, (0, a2)), (3, (3, 76)), (4, (1, y201)), (6, (1, x210)), (8, (0, x212))] [] 118 V205 := by
        intro N216
        induction N216 using Nat.strongRecOn with
        | _ N216 ih217 =>
        intro x210 x212 b211 b213 hm215
        refine pm_iload hC 6 dX10_partedBy_40 rfl ?_
        refine pm_aload_n hC 0 (by decide) dX10_partedBy_42 rfl ?_
        rcases hV207.get2 73 0 (lo := 45) (hi := 51) (by decide) (by decide) rfl with e218 | e218
        · skip
          refine pm_getf (v := 45) hC 73 fl_X10_59 rfl rfl (by decide) rfl e218 dX10_partedBy_43 ?_
          obtain ⟨y219, e220⟩ : ∃ y, V205 45 0 = y := ⟨_, rfl⟩
          have b221 := hV207.get 45 0 (lo := 0) (hi := 9) (by decide) (by decide) rfl
          rw [e220] at b221
          refine pm_getf (v := y219) hC 45 fl_X10_79 rfl rfl (by decide) rfl e220 dX10_partedBy_46 ?_
          refine pm_icmp_ge (tgt := 89) hC ⟨by omega, by omega⟩ ⟨by omega, by omega⟩ dX10_partedBy_49 (by decide) (fun c222 => ?_) (fun c222 => ?_)
          · skip
            refine pm_lload hC 5 dX10_partedBy_89 rfl ?_
            refine pm_ldc2 (v := 2) hC 5038 dX10_partedBy_91 (by decide +kernel) ?_
            refine pm_aload_n hC 0 (by decide) dX10_partedBy_94 rfl ?_
            obtain ⟨y223, e224⟩ : ∃ y, V205 73 14 = y := ⟨_, rfl⟩
            have b225 := hV207.get 73 14 (lo := (-9223372036854775808)) (hi := 9223372036854775807) (by decide) (by decide) rfl
            rw [e224] at b225
            refine pm_getf (v := y223) hC 73 fl_X10_53 rfl rfl (by decide) rfl e224 dX10_partedBy_95 ?_
            refine pm_lmul hC dX10_partedBy_98 ?_
            refine pm_someL hC (fun y226 b227 => ?_)
            have b227 := And.intro b227.1 b227.2
            refine pm_lload hC 4 dX10_partedBy_99 rfl ?_
            refine pm_lmul hC dX10_partedBy_101 ?_
            refine pm_someL hC (fun y228 b229 => ?_)
            have b229 := And.intro b229.1 b229.2
            refine pm_callSN (as := [(1, x210), (1, y228)]) (st := []) hC (c_X11_ofThousand x210 y228 ⟨by omega, by omega⟩ ⟨by omega, by omega⟩) lm_X10_141 ls_X11_ofThousand (by decide) (by decide) rfl rfl (Nat.le_of_ble_eq_true rfl) ⟨Nat.le_refl _, Or.inl rfl⟩ dX10_partedBy_102 ⟨rfl, hV207⟩ (fun r230 V231 hp232 => ?_)
            obtain ⟨y233, rfl, b234, rfl⟩ := hp232
            change pm_J X 105 [(0, (3, 73)), (1, (0, a1)), (2, (0, a2)), (3, (3, 76)), (4, (1, y201)), (6, (1, x210)), (8, (0, x212))] [(0, y233)] 118 V205
            exact pm_iret hC hR pm_nar0 ⟨y233, rfl, ⟨by omega, by omega⟩, hV207, hF209⟩ dX10_partedBy_105
          · skip
            refine pm_lload hC 5 dX10_partedBy_52 rfl ?_
            refine pm_aload_n hC 0 (by decide) dX10_partedBy_54 rfl ?_
            rcases hV207.get2 73 13 (lo := 76) (hi := 77) (by decide) (by decide) rfl with e235 | e235
            · skip
              refine pm_getf (v := 76) hC 73 fl_X10_50 rfl rfl (by decide) rfl e235 dX10_partedBy_55 ?_
              refine pm_iload hC 6 dX10_partedBy_58 rfl ?_
              obtain ⟨y236, e237⟩ : ∃ y, V205 76 (x212 : Int).toNat = y := ⟨_, rfl⟩
              have b238 := hV207.get 76 (x212 : Int).toNat (lo := (-9223372036854775808)) (hi := 9223372036854775807) (by decide) (show _ < 9 by omega) rfl
              rw [e237] at b238
              refine pm_laload (len := 9) (v := y236) hC 76 rfl rfl (by decide) ⟨by omega, by omega⟩ (by decide) e237 dX10_partedBy_60 ?_
              refine pm_lload hC 4 dX10_partedBy_61 rfl ?_
              refine pm_lmul hC dX10_partedBy_63 ?_
              refine pm_someL hC (fun y239 b240 => ?_)
              have b240 := And.intro b240.1 b240.2
              refine pm_aload_n hC 0 (by decide) dX10_partedBy_64 rfl ?_
              rcases hV207.get2 73 15 (lo := 76) (hi := 77) (by decide) (by decide) rfl with e241 | e241
              · skip
                refine pm_getf (v := 76) hC 73 fl_X10_56 rfl rfl (by decide) rfl e241 dX10_partedBy_65 ?_
                refine pm_iload hC 6 dX10_partedBy_68 rfl ?_
                refine pm_laload (len := 9) (v := y236) hC 76 rfl rfl (by decide) ⟨by omega, by omega⟩ (by decide) e237 dX10_partedBy_70 ?_
                refine pm_aload_n hC 0 (by decide) dX10_partedBy_71 rfl ?_
                obtain ⟨y242, e243⟩ : ∃ y, V205 73 14 = y := ⟨_, rfl⟩
                have b244 := hV207.get 73 14 (lo := (-9223372036854775808)) (hi := 9223372036854775807) (by decide) (by decide) rfl
                rw [e243] at b244
                refine pm_getf (v := y242) hC 73 fl_X10_53 rfl rfl (by decide) rfl e243 dX10_partedBy_72 ?_
                refine pm_lmul hC dX10_partedBy_75 ?_
                refine pm_someL hC (fun y245 b246 => ?_)
                have b246 := And.intro b246.1 b246.2
                refine pm_lsub hC dX10_partedBy_76 ?_
                refine pm_someL hC (fun y247 b248 => ?_)
                have b248 := And.intro b248.1 b248.2
                refine pm_mabsL hC 5035 5036 1018 5037 ⟨by omega, by omega⟩ (by decide) wL_X10_151 wS_mabsL wI_math wC_mabsL (Nat.le_of_ble_eq_true rfl) dX10_partedBy_77 (fun y249 b250 => ?_)
                have b250 := And.intro b250.1.1 (And.intro b250.1.2 b250.2)
                refine pm_ladd hC dX10_partedBy_80 ?_
                refine pm_someL hC (fun y251 b252 => ?_)
                have b252 := And.intro b252.1 b252.2
                refine pm_lstore (lv' := [(6, (1, y251)), (0, (3, 73)), (1, (0, a1)), (2, (0, a2)), (3, (3, 76)), (4, (1, y201)), (8, (0, x212))]) hC dX10_partedBy_81 (by decide) rfl ?_
                obtain ⟨x253, ei254⟩ : ∃ y : Int, x212 + 1 = y := ⟨_, rfl⟩
                refine pm_iinc (y := x253) (lv' := [(8, (0, x253)), (6, (1, y251)), (0, (3, 73)), (1, (0, a1)), (2, (0, a2)), (3, (3, 76)), (4, (1, y201))]) hC 6 dX10_partedBy_83 (by decide) rfl ei254 rfl ?_
                refine pm_goto (tgt := 40) hC dX10_partedBy_86 (by decide) ?_
                refine pm_lvsub [2, 3, 4, 5, 6, 1, 0] (lv' := [(0, (3, 73)), (1, (0, a1)), (2, (0, a2)), (3, (3, 76)), (4, (1, y201)), (6, (1, y251)), (8, (0, x253))]) rfl ?_
                exact ih217 _ (by omega) y251 x253 ⟨by omega, by omega⟩ ⟨by omega, by omega⟩ rfl
              · skip
                refine pm_getf (v := 77) hC 73 fl_X10_56 rfl rfl (by decide) rfl e241 dX10_partedBy_65 ?_
                refine pm_iload hC 6 dX10_partedBy_68 rfl ?_
                obtain ⟨y255, e256⟩ : ∃ y, V205 77 (x212 : Int).toNat = y := ⟨_, rfl⟩
                have b257 := hV207.get 77 (x212 : Int).toNat (lo := (-9223372036854775808)) (hi := 9223372036854775807) (by decide) (show _ < 9 by omega) rfl
                rw [e256] at b257
                refine pm_laload (len := 9) (v := y255) hC 77 rfl rfl (by decide) ⟨by omega, by omega⟩ (by decide) e256 dX10_partedBy_70 ?_
                refine pm_aload_n hC 0 (by decide) dX10_partedBy_71 rfl ?_
                obtain ⟨y258, e259⟩ : ∃ y, V205 73 14 = y := ⟨_, rfl⟩
                have b260 := hV207.get 73 14 (lo := (-9223372036854775808)) (hi := 9223372036854775807) (by decide) (by decide) rfl
                rw [e259] at b260
                refine pm_getf (v := y258) hC 73 fl_X10_53 rfl rfl (by decide) rfl e259 dX10_partedBy_72 ?_
                refine pm_lmul hC dX10_partedBy_75 ?_
                refine pm_someL hC (fun y261 b262 => ?_)
                have b262 := And.intro b262.1 b262.2
                refine pm_lsub hC dX10_partedBy_76 ?_
                refine pm_someL hC (fun y263 b264 => ?_)
                have b264 := And.intro b264.1 b264.2
                refine pm_mabsL hC 5035 5036 1018 5037 ⟨by omega, by omega⟩ (by decide) wL_X10_151 wS_mabsL wI_math wC_mabsL (Nat.le_of_ble_eq_true rfl) dX10_partedBy_77 (fun y265 b266 => ?_)
                have b266 := And.intro b266.1.1 (And.intro b266.1.2 b266.2)
                refine pm_ladd hC dX10_partedBy_80 ?_
                refine pm_someL hC (fun y267 b268 => ?_)
                have b268 := And.intro b268.1 b268.2
                refine pm_lstore (lv' := [(6, (1, y267)), (0, (3, 73)), (1, (0, a1)), (2, (0, a2)), (3, (3, 76)), (4, (1, y201)), (8, (0, x212))]) hC dX10_partedBy_81 (by decide) rfl ?_
                obtain ⟨x269, ei270⟩ : ∃ y : Int, x212 + 1 = y := ⟨_, rfl⟩
                refine pm_iinc (y := x269) (lv' := [(8, (0, x269)), (6, (1, y267)), (0, (3, 73)), (1, (0, a1)), (2, (0, a2)), (3, (3, 76)), (4, (1, y201))]) hC 6 dX10_partedBy_83 (by decide) rfl ei270 rfl ?_
                refine pm_goto (tgt := 40) hC dX10_partedBy_86 (by decide) ?_
                refine pm_lvsub [2, 3, 4, 5, 6, 1, 0] (lv' := [(0, (3, 73)), (1, (0, a1)), (2, (0, a2)), (3, (3, 76)), (4, (1, y201)), (6, (1, y267)), (8, (0, x269))]) rfl ?_
                exact ih217 _ (by omega) y267 x269 ⟨by omega, by omega⟩ ⟨by omega, by omega⟩ rfl
            · skip
              refine pm_getf (v := 77) hC 73 fl_X10_50 rfl rfl (by decide) rfl e235 dX10_partedBy_55 ?_
              refine pm_iload hC 6 dX10_partedBy_58 rfl ?_
              obtain ⟨y271, e272⟩ : ∃ y, V205 77 (x212 : Int).toNat = y := ⟨_, rfl⟩
              have b273 := hV207.get 77 (x212 : Int).toNat (lo := (-9223372036854775808)) (hi := 9223372036854775807) (by decide) (show _ < 9 by omega) rfl
              rw [e272] at b273
              refine pm_laload (len := 9) (v := y271) hC 77 rfl rfl (by decide) ⟨by omega, by omega⟩ (by decide) e272 dX10_partedBy_60 ?_
              refine pm_lload hC 4 dX10_partedBy_61 rfl ?_
              refine pm_lmul hC dX10_partedBy_63 ?_
              refine pm_someL hC (fun y274 b275 => ?_)
              have b275 := And.intro b275.1 b275.2
              refine pm_aload_n hC 0 (by decide) dX10_partedBy_64 rfl ?_
              rcases hV207.get2 73 15 (lo := 76) (hi := 77) (by decide) (by decide) rfl with e276 | e276
              · skip
                refine pm_getf (v := 76) hC 73 fl_X10_56 rfl rfl (by decide) rfl e276 dX10_partedBy_65 ?_
                refine pm_iload hC 6 dX10_partedBy_68 rfl ?_
                obtain ⟨y277, e278⟩ : ∃ y, V205 76 (x212 : Int).toNat = y := ⟨_, rfl⟩
                have b279 := hV207.get 76 (x212 : Int).toNat (lo := (-9223372036854775808)) (hi := 9223372036854775807) (by decide) (show _ < 9 by omega) rfl
                rw [e278] at b279
                refine pm_laload (len := 9) (v := y277) hC 76 rfl rfl (by decide) ⟨by omega, by omega⟩ (by decide) e278 dX10_partedBy_70 ?_
                refine pm_aload_n hC 0 (by decide) dX10_partedBy_71 rfl ?_
                obtain ⟨y280, e281⟩ : ∃ y, V205 73 14 = y := ⟨_, rfl⟩
                have b282 := hV207.get 73 14 (lo := (-9223372036854775808)) (hi := 9223372036854775807) (by decide) (by decide) rfl
                rw [e281] at b282
                refine pm_getf (v := y280) hC 73 fl_X10_53 rfl rfl (by decide) rfl e281 dX10_partedBy_72 ?_
                refine pm_lmul hC dX10_partedBy_75 ?_
                refine pm_someL hC (fun y283 b284 => ?_)
                have b284 := And.intro b284.1 b284.2
                refine pm_lsub hC dX10_partedBy_76 ?_
                refine pm_someL hC (fun y285 b286 => ?_)
                have b286 := And.intro b286.1 b286.2
                refine pm_mabsL hC 5035 5036 1018 5037 ⟨by omega, by omega⟩ (by decide) wL_X10_151 wS_mabsL wI_math wC_mabsL (Nat.le_of_ble_eq_true rfl) dX10_partedBy_77 (fun y287 b288 => ?_)
                have b288 := And.intro b288.1.1 (And.intro b288.1.2 b288.2)
                refine pm_ladd hC dX10_partedBy_80 ?_
                refine pm_someL hC (fun y289 b290 => ?_)
                have b290 := And.intro b290.1 b290.2
                refine pm_lstore (lv' := [(6, (1, y289)), (0, (3, 73)), (1, (0, a1)), (2, (0, a2)), (3, (3, 76)), (4, (1, y201)), (8, (0, x212))]) hC dX10_partedBy_81 (by decide) rfl ?_
                obtain ⟨x291, ei292⟩ : ∃ y : Int, x212 + 1 = y := ⟨_, rfl⟩
                refine pm_iinc (y := x291) (lv' := [(8, (0, x291)), (6, (1, y289)), (0, (3, 73)), (1, (0, a1)), (2, (0, a2)), (3, (3, 76)), (4, (1, y201))]) hC 6 dX10_partedBy_83 (by decide) rfl ei292 rfl ?_
                refine pm_goto (tgt := 40) hC dX10_partedBy_86 (by decide) ?_
                refine pm_lvsub [2, 3, 4, 5, 6, 1, 0] (lv' := [(0, (3, 73)), (1, (0, a1)), (2, (0, a2)), (3, (3, 76)), (4, (1, y201)), (6, (1, y289)), (8, (0, x291))]) rfl ?_
                exact ih217 _ (by omega) y289 x291 ⟨by omega, by omega⟩ ⟨by omega, by omega⟩ rfl
              · skip
                refine pm_getf (v := 77) hC 73 fl_X10_56 rfl rfl (by decide) rfl e276 dX10_partedBy_65 ?_
                refine pm_iload hC 6 dX10_partedBy_68 rfl ?_
                refine pm_laload (len := 9) (v := y271) hC 77 rfl rfl (by decide) ⟨by omega, by omega⟩ (by decide) e272 dX10_partedBy_70 ?_
                refine pm_aload_n hC 0 (by decide) dX10_partedBy_71 rfl ?_
                obtain ⟨y293, e294⟩ : ∃ y, V205 73 14 = y := ⟨_, rfl⟩
                have b295 := hV207.get 73 14 (lo := (-9223372036854775808)) (hi := 9223372036854775807) (by decide) (by decide) rfl
                rw [e294] at b295
                refine pm_getf (v := y293) hC 73 fl_X10_53 rfl rfl (by decide) rfl e294 dX10_partedBy_72 ?_
                refine pm_lmul hC dX10_partedBy_75 ?_
                refine pm_someL hC (fun y296 b297 => ?_)
                have b297 := And.intro b297.1 b297.2
                refine pm_lsub hC dX10_partedBy_76 ?_
                refine pm_someL hC (fun y298 b299 => ?_)
                have b299 := And.intro b299.1 b299.2
                refine pm_mabsL hC 5035 5036 1018 5037 ⟨by omega, by omega⟩ (by decide) wL_X10_151 wS_mabsL wI_math wC_mabsL (Nat.le_of_ble_eq_true rfl) dX10_partedBy_77 (fun y300 b301 => ?_)
                have b301 := And.intro b301.1.1 (And.intro b301.1.2 b301.2)
                refine pm_ladd hC dX10_partedBy_80 ?_
                refine pm_someL hC (fun y302 b303 => ?_)
                have b303 := And.intro b303.1 b303.2
                refine pm_lstore (lv' := [(6, (1, y302)), (0, (3, 73)), (1, (0, a1)), (2, (0, a2)), (3, (3, 76)), (4, (1, y201)), (8, (0, x212))]) hC dX10_partedBy_81 (by decide) rfl ?_
                obtain ⟨x304, ei305⟩ : ∃ y : Int, x212 + 1 = y := ⟨_, rfl⟩
                refine pm_iinc (y := x304) (lv' := [(8, (0, x304)), (6, (1, y302)), (0, (3, 73)), (1, (0, a1)), (2, (0, a2)), (3, (3, 76)), (4, (1, y201))]) hC 6 dX10_partedBy_83 (by decide) rfl ei305 rfl ?_
                refine pm_goto (tgt := 40) hC dX10_partedBy_86 (by decide) ?_
                refine pm_lvsub [2, 3, 4, 5, 6, 1, 0] (lv' := [(0, (3, 73)), (1, (0, a1)), (2, (0, a2)), (3, (3, 76)), (4, (1, y201)), (6, (1, y302)), (8, (0, x304))]) rfl ?_
                exact ih217 _ (by omega) y302 x304 ⟨by omega, by omega⟩ ⟨by omega, by omega⟩ rfl
        · skip
          refine pm_getf (v := 51) hC 73 fl_X10_59 rfl rfl (by decide) rfl e218 dX10_partedBy_43 ?_
          obtain ⟨y306, e307⟩ : ∃ y, V205 51 0 = y := ⟨_, rfl⟩
          have b308 := hV207.get 51 0 (lo := 0) (hi := 9) (by decide) (by decide) rfl
          rw [e307] at b308
          refine pm_getf (v := y306) hC 51 fl_X10_79 rfl rfl (by decide) rfl e307 dX10_partedBy_46 ?_
          refine pm_icmp_ge (tgt := 89) hC ⟨by omega, by omega⟩ ⟨by omega, by omega⟩ dX10_partedBy_49 (by decide) (fun c309 => ?_) (fun c309 => ?_)
          · skip
            refine pm_lload hC 5 dX10_partedBy_89 rfl ?_
            refine pm_ldc2 (v := 2) hC 5038 dX10_partedBy_91 (by decide +kernel) ?_
            refine pm_aload_n hC 0 (by decide) dX10_partedBy_94 rfl ?_
            obtain ⟨y310, e311⟩ : ∃ y, V205 73 14 = y := ⟨_, rfl⟩
            have b312 := hV207.get 73 14 (lo := (-9223372036854775808)) (hi := 9223372036854775807) (by decide) (by decide) rfl
            rw [e311] at b312
            refine pm_getf (v := y310) hC 73 fl_X10_53 rfl rfl (by decide) rfl e311 dX10_partedBy_95 ?_
            refine pm_lmul hC dX10_partedBy_98 ?_
            refine pm_someL hC (fun y313 b314 => ?_)
            have b314 := And.intro b314.1 b314.2
            refine pm_lload hC 4 dX10_partedBy_99 rfl ?_
            refine pm_lmul hC dX10_partedBy_101 ?_
            refine pm_someL hC (fun y315 b316 => ?_)
            have b316 := And.intro b316.1 b316.2
            refine pm_callSN (as := [(1, x210), (1, y315)]) (st := []) hC (c_X11_ofThousand x210 y315 ⟨by omega, by omega⟩ ⟨by omega, by omega⟩) lm_X10_141 ls_X11_ofThousand (by decide) (by decide) rfl rfl (Nat.le_of_ble_eq_true rfl) ⟨Nat.le_refl _, Or.inl rfl⟩ dX10_partedBy_102 ⟨rfl, hV207⟩ (fun r317 V318 hp319 => ?_)
            obtain ⟨y320, rfl, b321, rfl⟩ := hp319
            change pm_J X 105 [(0, (3, 73)), (1, (0, a1)), (2, (0, a2)), (3, (3, 76)), (4, (1, y201)), (6, (1, x210)), (8, (0, x212))] [(0, y320)] 118 V205
            exact pm_iret hC hR pm_nar0 ⟨y320, rfl, ⟨by omega, by omega⟩, hV207, hF209⟩ dX10_partedBy_105
          · skip
            refine pm_lload hC 5 dX10_partedBy_52 rfl ?_
            refine pm_aload_n hC 0 (by decide) dX10_partedBy_54 rfl ?_
            rcases hV207.get2 73 13 (lo := 76) (hi := 77) (by decide) (by decide) rfl with e322 | e322
            · skip
              refine pm_getf (v := 76) hC 73 fl_X10_50 rfl rfl (by decide) rfl e322 dX10_partedBy_55 ?_
              refine pm_iload hC 6 dX10_partedBy_58 rfl ?_
              obtain ⟨y323, e324⟩ : ∃ y, V205 76 (x212 : Int).toNat = y := ⟨_, rfl⟩
              have b325 := hV207.get 76 (x212 : Int).toNat (lo := (-9223372036854775808)) (hi := 9223372036854775807) (by decide) (show _ < 9 by omega) rfl
              rw [e324] at b325
              refine pm_laload (len := 9) (v := y323) hC 76 rfl rfl (by decide) ⟨by omega, by omega⟩ (by decide) e324 dX10_partedBy_60 ?_
              refine pm_lload hC 4 dX10_partedBy_61 rfl ?_
              refine pm_lmul hC dX10_partedBy_63 ?_
              refine pm_someL hC (fun y326 b327 => ?_)
              have b327 := And.intro b327.1 b327.2
              refine pm_aload_n hC 0 (by decide) dX10_partedBy_64 rfl ?_
              rcases hV207.get2 73 15 (lo := 76) (hi := 77) (by decide) (by decide) rfl with e328 | e328
              · skip
                refine pm_getf (v := 76) hC 73 fl_X10_56 rfl rfl (by decide) rfl e328 dX10_partedBy_65 ?_
                refine pm_iload hC 6 dX10_partedBy_68 rfl ?_
                refine pm_laload (len := 9) (v := y323) hC 76 rfl rfl (by decide) ⟨by omega, by omega⟩ (by decide) e324 dX10_partedBy_70 ?_
                refine pm_aload_n hC 0 (by decide) dX10_partedBy_71 rfl ?_
                obtain ⟨y329, e330⟩ : ∃ y, V205 73 14 = y := ⟨_, rfl⟩
                have b331 := hV207.get 73 14 (lo := (-9223372036854775808)) (hi := 9223372036854775807) (by decide) (by decide) rfl
                rw [e330] at b331
                refine pm_getf (v := y329) hC 73 fl_X10_53 rfl rfl (by decide) rfl e330 dX10_partedBy_72 ?_
                refine pm_lmul hC dX10_partedBy_75 ?_
                refine pm_someL hC (fun y332 b333 => ?_)
                have b333 := And.intro b333.1 b333.2
                refine pm_lsub hC dX10_partedBy_76 ?_
                refine pm_someL hC (fun y334 b335 => ?_)
                have b335 := And.intro b335.1 b335.2
                refine pm_mabsL hC 5035 5036 1018 5037 ⟨by omega, by omega⟩ (by decide) wL_X10_151 wS_mabsL wI_math wC_mabsL (Nat.le_of_ble_eq_true rfl) dX10_partedBy_77 (fun y336 b337 => ?_)
                have b337 := And.intro b337.1.1 (And.intro b337.1.2 b337.2)
                refine pm_ladd hC dX10_partedBy_80 ?_
                refine pm_someL hC (fun y338 b339 => ?_)
                have b339 := And.intro b339.1 b339.2
                refine pm_lstore (lv' := [(6, (1, y338)), (0, (3, 73)), (1, (0, a1)), (2, (0, a2)), (3, (3, 76)), (4, (1, y201)), (8, (0, x212))]) hC dX10_partedBy_81 (by decide) rfl ?_
                obtain ⟨x340, ei341⟩ : ∃ y : Int, x212 + 1 = y := ⟨_, rfl⟩
                refine pm_iinc (y := x340) (lv' := [(8, (0, x340)), (6, (1, y338)), (0, (3, 73)), (1, (0, a1)), (2, (0, a2)), (3, (3, 76)), (4, (1, y201))]) hC 6 dX10_partedBy_83 (by decide) rfl ei341 rfl ?_
                refine pm_goto (tgt := 40) hC dX10_partedBy_86 (by decide) ?_
                refine pm_lvsub [2, 3, 4, 5, 6, 1, 0] (lv' := [(0, (3, 73)), (1, (0, a1)), (2, (0, a2)), (3, (3, 76)), (4, (1, y201)), (6, (1, y338)), (8, (0, x340))]) rfl ?_
                exact ih217 _ (by omega) y338 x340 ⟨by omega, by omega⟩ ⟨by omega, by omega⟩ rfl
              · skip
                refine pm_getf (v := 77) hC 73 fl_X10_56 rfl rfl (by decide) rfl e328 dX10_partedBy_65 ?_
                refine pm_iload hC 6 dX10_partedBy_68 rfl ?_
                obtain ⟨y342, e343⟩ : ∃ y, V205 77 (x212 : Int).toNat = y := ⟨_, rfl⟩
                have b344 := hV207.get 77 (x212 : Int).toNat (lo := (-9223372036854775808)) (hi := 9223372036854775807) (by decide) (show _ < 9 by omega) rfl
                rw [e343] at b344
                refine pm_laload (len := 9) (v := y342) hC 77 rfl rfl (by decide) ⟨by omega, by omega⟩ (by decide) e343 dX10_partedBy_70 ?_
                refine pm_aload_n hC 0 (by decide) dX10_partedBy_71 rfl ?_
                obtain ⟨y345, e346⟩ : ∃ y, V205 73 14 = y := ⟨_, rfl⟩
                have b347 := hV207.get 73 14 (lo := (-9223372036854775808)) (hi := 9223372036854775807) (by decide) (by decide) rfl
                rw [e346] at b347
                refine pm_getf (v := y345) hC 73 fl_X10_53 rfl rfl (by decide) rfl e346 dX10_partedBy_72 ?_
                refine pm_lmul hC dX10_partedBy_75 ?_
                refine pm_someL hC (fun y348 b349 => ?_)
                have b349 := And.intro b349.1 b349.2
                refine pm_lsub hC dX10_partedBy_76 ?_
                refine pm_someL hC (fun y350 b351 => ?_)
                have b351 := And.intro b351.1 b351.2
                refine pm_mabsL hC 5035 5036 1018 5037 ⟨by omega, by omega⟩ (by decide) wL_X10_151 wS_mabsL wI_math wC_mabsL (Nat.le_of_ble_eq_true rfl) dX10_partedBy_77 (fun y352 b353 => ?_)
                have b353 := And.intro b353.1.1 (And.intro b353.1.2 b353.2)
                refine pm_ladd hC dX10_partedBy_80 ?_
                refine pm_someL hC (fun y354 b355 => ?_)
                have b355 := And.intro b355.1 b355.2
                refine pm_lstore (lv' := [(6, (1, y354)), (0, (3, 73)), (1, (0, a1)), (2, (0, a2)), (3, (3, 76)), (4, (1, y201)), (8, (0, x212))]) hC dX10_partedBy_81 (by decide) rfl ?_
                obtain ⟨x356, ei357⟩ : ∃ y : Int, x212 + 1 = y := ⟨_, rfl⟩
                refine pm_iinc (y := x356) (lv' := [(8, (0, x356)), (6, (1, y354)), (0, (3, 73)), (1, (0, a1)), (2, (0, a2)), (3, (3, 76)), (4, (1, y201))]) hC 6 dX10_partedBy_83 (by decide) rfl ei357 rfl ?_
                refine pm_goto (tgt := 40) hC dX10_partedBy_86 (by decide) ?_
                refine pm_lvsub [2, 3, 4, 5, 6, 1, 0] (lv' := [(0, (3, 73)), (1, (0, a1)), (2, (0, a2)), (3, (3, 76)), (4, (1, y201)), (6, (1, y354)), (8, (0, x356))]) rfl ?_
                exact ih217 _ (by omega) y354 x356 ⟨by omega, by omega⟩ ⟨by omega, by omega⟩ rfl
            · skip
              refine pm_getf (v := 77) hC 73 fl_X10_50 rfl rfl (by decide) rfl e322 dX10_partedBy_55 ?_
              refine pm_iload hC 6 dX10_partedBy_58 rfl ?_
              obtain ⟨y358, e359⟩ : ∃ y, V205 77 (x212 : Int).toNat = y := ⟨_, rfl⟩
              have b360 := hV207.get 77 (x212 : Int).toNat (lo := (-9223372036854775808)) (hi := 9223372036854775807) (by decide) (show _ < 9 by omega) rfl
              rw [e359] at b360
              refine pm_laload (len := 9) (v := y358) hC 77 rfl rfl (by decide) ⟨by omega, by omega⟩ (by decide) e359 dX10_partedBy_60 ?_
              refine pm_lload hC 4 dX10_partedBy_61 rfl ?_
              refine pm_lmul hC dX10_partedBy_63 ?_
              refine pm_someL hC (fun y361 b362 => ?_)
              have b362 := And.intro b362.1 b362.2
              refine pm_aload_n hC 0 (by decide) dX10_partedBy_64 rfl ?_
              rcases hV207.get2 73 15 (lo := 76) (hi := 77) (by decide) (by decide) rfl with e363 | e363
              · skip
                refine pm_getf (v := 76) hC 73 fl_X10_56 rfl rfl (by decide) rfl e363 dX10_partedBy_65 ?_
                refine pm_iload hC 6 dX10_partedBy_68 rfl ?_
                obtain ⟨y364, e365⟩ : ∃ y, V205 76 (x212 : Int).toNat = y := ⟨_, rfl⟩
                have b366 := hV207.get 76 (x212 : Int).toNat (lo := (-9223372036854775808)) (hi := 9223372036854775807) (by decide) (show _ < 9 by omega) rfl
                rw [e365] at b366
                refine pm_laload (len := 9) (v := y364) hC 76 rfl rfl (by decide) ⟨by omega, by omega⟩ (by decide) e365 dX10_partedBy_70 ?_
                refine pm_aload_n hC 0 (by decide) dX10_partedBy_71 rfl ?_
                obtain ⟨y367, e368⟩ : ∃ y, V205 73 14 = y := ⟨_, rfl⟩
                have b369 := hV207.get 73 14 (lo := (-9223372036854775808)) (hi := 9223372036854775807) (by decide) (by decide) rfl
                rw [e368] at b369
                refine pm_getf (v := y367) hC 73 fl_X10_53 rfl rfl (by decide) rfl e368 dX10_partedBy_72 ?_
                refine pm_lmul hC dX10_partedBy_75 ?_
                refine pm_someL hC (fun y370 b371 => ?_)
                have b371 := And.intro b371.1 b371.2
                refine pm_lsub hC dX10_partedBy_76 ?_
                refine pm_someL hC (fun y372 b373 => ?_)
                have b373 := And.intro b373.1 b373.2
                refine pm_mabsL hC 5035 5036 1018 5037 ⟨by omega, by omega⟩ (by decide) wL_X10_151 wS_mabsL wI_math wC_mabsL (Nat.le_of_ble_eq_true rfl) dX10_partedBy_77 (fun y374 b375 => ?_)
                have b375 := And.intro b375.1.1 (And.intro b375.1.2 b375.2)
                refine pm_ladd hC dX10_partedBy_80 ?_
                refine pm_someL hC (fun y376 b377 => ?_)
                have b377 := And.intro b377.1 b377.2
                refine pm_lstore (lv' := [(6, (1, y376)), (0, (3, 73)), (1, (0, a1)), (2, (0, a2)), (3, (3, 76)), (4, (1, y201)), (8, (0, x212))]) hC dX10_partedBy_81 (by decide) rfl ?_
                obtain ⟨x378, ei379⟩ : ∃ y : Int, x212 + 1 = y := ⟨_, rfl⟩
                refine pm_iinc (y := x378) (lv' := [(8, (0, x378)), (6, (1, y376)), (0, (3, 73)), (1, (0, a1)), (2, (0, a2)), (3, (3, 76)), (4, (1, y201))]) hC 6 dX10_partedBy_83 (by decide) rfl ei379 rfl ?_
                refine pm_goto (tgt := 40) hC dX10_partedBy_86 (by decide) ?_
                refine pm_lvsub [2, 3, 4, 5, 6, 1, 0] (lv' := [(0, (3, 73)), (1, (0, a1)), (2, (0, a2)), (3, (3, 76)), (4, (1, y201)), (6, (1, y376)), (8, (0, x378))]) rfl ?_
                exact ih217 _ (by omega) y376 x378 ⟨by omega, by omega⟩ ⟨by omega, by omega⟩ rfl
              · skip
                refine pm_getf (v := 77) hC 73 fl_X10_56 rfl rfl (by decide) rfl e363 dX10_partedBy_65 ?_
                refine pm_iload hC 6 dX10_partedBy_68 rfl ?_
                refine pm_laload (len := 9) (v := y358) hC 77 rfl rfl (by decide) ⟨by omega, by omega⟩ (by decide) e359 dX10_partedBy_70 ?_
                refine pm_aload_n hC 0 (by decide) dX10_partedBy_71 rfl ?_
                obtain ⟨y380, e381⟩ : ∃ y, V205 73 14 = y := ⟨_, rfl⟩
                have b382 := hV207.get 73 14 (lo := (-9223372036854775808)) (hi := 9223372036854775807) (by decide) (by decide) rfl
                rw [e381] at b382
                refine pm_getf (v := y380) hC 73 fl_X10_53 rfl rfl (by decide) rfl e381 dX10_partedBy_72 ?_
                refine pm_lmul hC dX10_partedBy_75 ?_
                refine pm_someL hC (fun y383 b384 => ?_)
                have b384 := And.intro b384.1 b384.2
                refine pm_lsub hC dX10_partedBy_76 ?_
                refine pm_someL hC (fun y385 b386 => ?_)
                have b386 := And.intro b386.1 b386.2
                refine pm_mabsL hC 5035 5036 1018 5037 ⟨by omega, by omega⟩ (by decide) wL_X10_151 wS_mabsL wI_math wC_mabsL (Nat.le_of_ble_eq_true rfl) dX10_partedBy_77 (fun y387 b388 => ?_)
                have b388 := And.intro b388.1.1 (And.intro b388.1.2 b388.2)
                refine pm_ladd hC dX10_partedBy_80 ?_
                refine pm_someL hC (fun y389 b390 => ?_)
                have b390 := And.intro b390.1 b390.2
                refine pm_lstore (lv' := [(6, (1, y389)), (0, (3, 73)), (1, (0, a1)), (2, (0, a2)), (3, (3, 76)), (4, (1, y201)), (8, (0, x212))]) hC dX10_partedBy_81 (by decide) rfl ?_
                obtain ⟨x391, ei392⟩ : ∃ y : Int, x212 + 1 = y := ⟨_, rfl⟩
                refine pm_iinc (y := x391) (lv' := [(8, (0, x391)), (6, (1, y389)), (0, (3, 73)), (1, (0, a1)), (2, (0, a2)), (3, (3, 76)), (4, (1, y201))]) hC 6 dX10_partedBy_83 (by decide) rfl ei392 rfl ?_
                refine pm_goto (tgt := 40) hC dX10_partedBy_86 (by decide) ?_
                refine pm_lvsub [2, 3, 4, 5, 6, 1, 0] (lv' := [(0, (3, 73)), (1, (0, a1)), (2, (0, a2)), (3, (3, 76)), (4, (1, y201)), (6, (1, y389)), (8, (0, x391))]) rfl ?_
                exact ih217 _ (by omega) y389 x391 ⟨by omega, by omega⟩ ⟨by omega, by omega⟩ rfl
      refine pm_lvsub [4, 5, 6, 3, 2, 1, 0] (lv' := [(0, (3, 73)), (1, (0, a1)), (2, (0, a2)), (3, (3, 76)), (4, (1, y201)), (6, (1, 0)), (8, (0, 0))]) rfl ?_
      exact L214 _ 0 0 ⟨by decide, by decide⟩ ⟨by decide, by decide⟩ rfl
  · skip
    refine pm_getf (v := 77) hC 73 fl_X10_50 rfl rfl (by decide) rfl e7 dX10_partedBy_6 ?_
    refine pm_astore_n (lv' := [(3, (3, 77)), (0, (3, 73)), (1, (0, a1)), (2, (0, a2))]) hC (by decide) dX10_partedBy_9 (by decide) rfl ?_
    refine pm_aload_n hC 1 (by decide) dX10_partedBy_10 rfl ?_
    refine pm_aload_n hC 1 (by decide) dX10_partedBy_11 rfl ?_
    rcases hV4.get2 73 15 (lo := 76) (hi := 77) (by decide) (by decide) rfl with e393 | e393
    · skip
      refine pm_getf (v := 76) hC 73 fl_X10_56 rfl rfl (by decide) rfl e393 dX10_partedBy_12 ?_
      refine pm_putf hC 73 fl_X10_50 rfl rfl rfl (by decide) rfl trivial dX10_partedBy_15 ?_
      refine pm_aload_n hC 1 (by decide) dX10_partedBy_18 rfl ?_
      refine pm_aload_n hC 0 (by decide) dX10_partedBy_19 rfl ?_
      refine pm_putf hC 73 fl_X10_56 rfl rfl rfl (by decide) rfl trivial dX10_partedBy_20 ?_
      refine pm_aload_n hC 1 (by decide) dX10_partedBy_23 rfl ?_
      obtain ⟨y394, e395⟩ : ∃ y, V2 73 14 = y := ⟨_, rfl⟩
      have b396 := hV4.get 73 14 (lo := (-9223372036854775808)) (hi := 9223372036854775807) (by decide) (by decide) rfl
      rw [e395] at b396
      refine pm_getf (v := y394) hC 73 fl_X10_53 rfl rfl (by decide) rfl e395 dX10_partedBy_24 ?_
      refine pm_lstore (lv' := [(4, (1, y394)), (3, (3, 77)), (0, (3, 73)), (1, (0, a1)), (2, (0, a2))]) hC dX10_partedBy_27 (by decide) rfl ?_
      refine pm_aload_n hC 2 (by decide) dX10_partedBy_29 rfl ?_
      refine pm_iload_n hC 4 dX10_partedBy_30 rfl ?_
      refine pm_callV (ci := 10) (as := [(0, a2)]) (st := []) hC 73 (c_X10_weigh_73 a2 ⟨by omega, by omega⟩) lm_X10_148 li_X10_weigh (by decide) (by decide) rfl rfl rfl (by decide) rfl rfl (Nat.le_of_ble_eq_true rfl) ⟨Nat.le_refl _, Or.inl rfl⟩ dX10_partedBy_31 ⟨rfl, ((hV4.put2 73 13 (x := 76) (lo := 76) (hi := 77) rfl ⟨by omega, by decide⟩).put2 73 15 (x := 77) (lo := 76) (hi := 77) rfl ⟨by omega, by decide⟩)⟩ (fun r397 V398 hp399 => ?_)
      obtain ⟨rfl, hV400, hF401⟩ := hp399
      change pm_J X 34 [(4, (1, y394)), (3, (3, 77)), (0, (3, 73)), (1, (0, a1)), (2, (0, a2))] [] 118 V398
      have hF402 := pm_fr.tr ((hF6.up 73 13 76 rfl).up 73 15 77 rfl) hF401 (by decide)
      refine pm_lconst (x := 0) hC dX10_partedBy_34 rfl ?_
      refine pm_lstore (lv' := [(6, (1, 0)), (4, (1, y394)), (3, (3, 77)), (0, (3, 73)), (1, (0, a1)), (2, (0, a2))]) hC dX10_partedBy_35 (by decide) rfl ?_
      refine pm_iconst (v := 0) hC dX10_partedBy_37 ?_
      refine pm_istore (lv' := [(8, (0, 0)), (6, (1, 0)), (4, (1, y394)), (3, (3, 77)), (0, (3, 73)), (1, (0, a1)), (2, (0, a2))]) hC dX10_partedBy_38 (by decide) rfl ?_
      have L407 : ∀ (N409 : Nat) (x403 : Int) (x405 : Int), ((-9223372036854775808) ≤ x403 ∧ x403 ≤ 9223372036854775807) → (0 ≤ x405 ∧ x405 ≤ 9) → (Int.toNat (9 - x405)) = N409 → pm_J X 40 [(0, (3, 73)), (1, (0, a1)), (2, (0, a2)), (3, (3, 77)), (4, (1, y394)), (6, (1, x403)), (8, (0, x405))] [] 118 V398 := by
        intro N409
        induction N409 using Nat.strongRecOn with
        | _ N409 ih410 =>
        intro x403 x405 b404 b406 hm408
        refine pm_iload hC 6 dX10_partedBy_40 rfl ?_
        refine pm_aload_n hC 0 (by decide) dX10_partedBy_42 rfl ?_
        rcases hV400.get2 73 0 (lo := 45) (hi := 51) (by decide) (by decide) rfl with e411 | e411
        · skip
          refine pm_getf (v := 45) hC 73 fl_X10_59 rfl rfl (by decide) rfl e411 dX10_partedBy_43 ?_
          obtain ⟨y412, e413⟩ : ∃ y, V398 45 0 = y := ⟨_, rfl⟩
          have b414 := hV400.get 45 0 (lo := 0) (hi := 9) (by decide) (by decide) rfl
          rw [e413] at b414
          refine pm_getf (v := y412) hC 45 fl_X10_79 rfl rfl (by decide) rfl e413 dX10_partedBy_46 ?_
          refine pm_icmp_ge (tgt := 89) hC ⟨by omega, by omega⟩ ⟨by omega, by omega⟩ dX10_partedBy_49 (by decide) (fun c415 => ?_) (fun c415 => ?_)
          · skip
            refine pm_lload hC 5 dX10_partedBy_89 rfl ?_
            refine pm_ldc2 (v := 2) hC 5038 dX10_partedBy_91 (by decide +kernel) ?_
            refine pm_aload_n hC 0 (by decide) dX10_partedBy_94 rfl ?_
            obtain ⟨y416, e417⟩ : ∃ y, V398 73 14 = y := ⟨_, rfl⟩
            have b418 := hV400.get 73 14 (lo := (-9223372036854775808)) (hi := 9223372036854775807) (by decide) (by decide) rfl
            rw [e417] at b418
            refine pm_getf (v := y416) hC 73 fl_X10_53 rfl rfl (by decide) rfl e417 dX10_partedBy_95 ?_
            refine pm_lmul hC dX10_partedBy_98 ?_
            refine pm_someL hC (fun y419 b420 => ?_)
            have b420 := And.intro b420.1 b420.2
            refine pm_lload hC 4 dX10_partedBy_99 rfl ?_
            refine pm_lmul hC dX10_partedBy_101 ?_
            refine pm_someL hC (fun y421 b422 => ?_)
            have b422 := And.intro b422.1 b422.2
            refine pm_callSN (as := [(1, x403), (1, y421)]) (st := []) hC (c_X11_ofThousand x403 y421 ⟨by omega, by omega⟩ ⟨by omega, by omega⟩) lm_X10_141 ls_X11_ofThousand (by decide) (by decide) rfl rfl (Nat.le_of_ble_eq_true rfl) ⟨Nat.le_refl _, Or.inl rfl⟩ dX10_partedBy_102 ⟨rfl, hV400⟩ (fun r423 V424 hp425 => ?_)
            obtain ⟨y426, rfl, b427, rfl⟩ := hp425
            change pm_J X 105 [(0, (3, 73)), (1, (0, a1)), (2, (0, a2)), (3, (3, 77)), (4, (1, y394)), (6, (1, x403)), (8, (0, x405))] [(0, y426)] 118 V398
            exact pm_iret hC hR pm_nar0 ⟨y426, rfl, ⟨by omega, by omega⟩, hV400, hF402⟩ dX10_partedBy_105
          · skip
            refine pm_lload hC 5 dX10_partedBy_52 rfl ?_
            refine pm_aload_n hC 0 (by decide) dX10_partedBy_54 rfl ?_
            rcases hV400.get2 73 13 (lo := 76) (hi := 77) (by decide) (by decide) rfl with e428 | e428
            · skip
              refine pm_getf (v := 76) hC 73 fl_X10_50 rfl rfl (by decide) rfl e428 dX10_partedBy_55 ?_
              refine pm_iload hC 6 dX10_partedBy_58 rfl ?_
              obtain ⟨y429, e430⟩ : ∃ y, V398 76 (x405 : Int).toNat = y := ⟨_, rfl⟩
              have b431 := hV400.get 76 (x405 : Int).toNat (lo := (-9223372036854775808)) (hi := 9223372036854775807) (by decide) (show _ < 9 by omega) rfl
              rw [e430] at b431
              refine pm_laload (len := 9) (v := y429) hC 76 rfl rfl (by decide) ⟨by omega, by omega⟩ (by decide) e430 dX10_partedBy_60 ?_
              refine pm_lload hC 4 dX10_partedBy_61 rfl ?_
              refine pm_lmul hC dX10_partedBy_63 ?_
              refine pm_someL hC (fun y432 b433 => ?_)
              have b433 := And.intro b433.1 b433.2
              refine pm_aload_n hC 0 (by decide) dX10_partedBy_64 rfl ?_
              rcases hV400.get2 73 15 (lo := 76) (hi := 77) (by decide) (by decide) rfl with e434 | e434
              · skip
                refine pm_getf (v := 76) hC 73 fl_X10_56 rfl rfl (by decide) rfl e434 dX10_partedBy_65 ?_
                refine pm_iload hC 6 dX10_partedBy_68 rfl ?_
                refine pm_laload (len := 9) (v := y429) hC 76 rfl rfl (by decide) ⟨by omega, by omega⟩ (by decide) e430 dX10_partedBy_70 ?_
                refine pm_aload_n hC 0 (by decide) dX10_partedBy_71 rfl ?_
                obtain ⟨y435, e436⟩ : ∃ y, V398 73 14 = y := ⟨_, rfl⟩
                have b437 := hV400.get 73 14 (lo := (-9223372036854775808)) (hi := 9223372036854775807) (by decide) (by decide) rfl
                rw [e436] at b437
                refine pm_getf (v := y435) hC 73 fl_X10_53 rfl rfl (by decide) rfl e436 dX10_partedBy_72 ?_
                refine pm_lmul hC dX10_partedBy_75 ?_
                refine pm_someL hC (fun y438 b439 => ?_)
                have b439 := And.intro b439.1 b439.2
                refine pm_lsub hC dX10_partedBy_76 ?_
                refine pm_someL hC (fun y440 b441 => ?_)
                have b441 := And.intro b441.1 b441.2
                refine pm_mabsL hC 5035 5036 1018 5037 ⟨by omega, by omega⟩ (by decide) wL_X10_151 wS_mabsL wI_math wC_mabsL (Nat.le_of_ble_eq_true rfl) dX10_partedBy_77 (fun y442 b443 => ?_)
                have b443 := And.intro b443.1.1 (And.intro b443.1.2 b443.2)
                refine pm_ladd hC dX10_partedBy_80 ?_
                refine pm_someL hC (fun y444 b445 => ?_)
                have b445 := And.intro b445.1 b445.2
                refine pm_lstore (lv' := [(6, (1, y444)), (0, (3, 73)), (1, (0, a1)), (2, (0, a2)), (3, (3, 77)), (4, (1, y394)), (8, (0, x405))]) hC dX10_partedBy_81 (by decide) rfl ?_
                obtain ⟨x446, ei447⟩ : ∃ y : Int, x405 + 1 = y := ⟨_, rfl⟩
                refine pm_iinc (y := x446) (lv' := [(8, (0, x446)), (6, (1, y444)), (0, (3, 73)), (1, (0, a1)), (2, (0, a2)), (3, (3, 77)), (4, (1, y394))]) hC 6 dX10_partedBy_83 (by decide) rfl ei447 rfl ?_
                refine pm_goto (tgt := 40) hC dX10_partedBy_86 (by decide) ?_
                refine pm_lvsub [2, 3, 4, 5, 6, 1, 0] (lv' := [(0, (3, 73)), (1, (0, a1)), (2, (0, a2)), (3, (3, 77)), (4, (1, y394)), (6, (1, y444)), (8, (0, x446))]) rfl ?_
                exact ih410 _ (by omega) y444 x446 ⟨by omega, by omega⟩ ⟨by omega, by omega⟩ rfl
              · skip
                refine pm_getf (v := 77) hC 73 fl_X10_56 rfl rfl (by decide) rfl e434 dX10_partedBy_65 ?_
                refine pm_iload hC 6 dX10_partedBy_68 rfl ?_
                obtain ⟨y448, e449⟩ : ∃ y, V398 77 (x405 : Int).toNat = y := ⟨_, rfl⟩
                have b450 := hV400.get 77 (x405 : Int).toNat (lo := (-9223372036854775808)) (hi := 9223372036854775807) (by decide) (show _ < 9 by omega) rfl
                rw [e449] at b450
                refine pm_laload (len := 9) (v := y448) hC 77 rfl rfl (by decide) ⟨by omega, by omega⟩ (by decide) e449 dX10_partedBy_70 ?_
                refine pm_aload_n hC 0 (by decide) dX10_partedBy_71 rfl ?_
                obtain ⟨y451, e452⟩ : ∃ y, V398 73 14 = y := ⟨_, rfl⟩
                have b453 := hV400.get 73 14 (lo := (-9223372036854775808)) (hi := 9223372036854775807) (by decide) (by decide) rfl
                rw [e452] at b453
                refine pm_getf (v := y451) hC 73 fl_X10_53 rfl rfl (by decide) rfl e452 dX10_partedBy_72 ?_
                refine pm_lmul hC dX10_partedBy_75 ?_
                refine pm_someL hC (fun y454 b455 => ?_)
                have b455 := And.intro b455.1 b455.2
                refine pm_lsub hC dX10_partedBy_76 ?_
                refine pm_someL hC (fun y456 b457 => ?_)
                have b457 := And.intro b457.1 b457.2
                refine pm_mabsL hC 5035 5036 1018 5037 ⟨by omega, by omega⟩ (by decide) wL_X10_151 wS_mabsL wI_math wC_mabsL (Nat.le_of_ble_eq_true rfl) dX10_partedBy_77 (fun y458 b459 => ?_)
                have b459 := And.intro b459.1.1 (And.intro b459.1.2 b459.2)
                refine pm_ladd hC dX10_partedBy_80 ?_
                refine pm_someL hC (fun y460 b461 => ?_)
                have b461 := And.intro b461.1 b461.2
                refine pm_lstore (lv' := [(6, (1, y460)), (0, (3, 73)), (1, (0, a1)), (2, (0, a2)), (3, (3, 77)), (4, (1, y394)), (8, (0, x405))]) hC dX10_partedBy_81 (by decide) rfl ?_
                obtain ⟨x462, ei463⟩ : ∃ y : Int, x405 + 1 = y := ⟨_, rfl⟩
                refine pm_iinc (y := x462) (lv' := [(8, (0, x462)), (6, (1, y460)), (0, (3, 73)), (1, (0, a1)), (2, (0, a2)), (3, (3, 77)), (4, (1, y394))]) hC 6 dX10_partedBy_83 (by decide) rfl ei463 rfl ?_
                refine pm_goto (tgt := 40) hC dX10_partedBy_86 (by decide) ?_
                refine pm_lvsub [2, 3, 4, 5, 6, 1, 0] (lv' := [(0, (3, 73)), (1, (0, a1)), (2, (0, a2)), (3, (3, 77)), (4, (1, y394)), (6, (1, y460)), (8, (0, x462))]) rfl ?_
                exact ih410 _ (by omega) y460 x462 ⟨by omega, by omega⟩ ⟨by omega, by omega⟩ rfl
            · skip
              refine pm_getf (v := 77) hC 73 fl_X10_50 rfl rfl (by decide) rfl e428 dX10_partedBy_55 ?_
              refine pm_iload hC 6 dX10_partedBy_58 rfl ?_
              obtain ⟨y464, e465⟩ : ∃ y, V398 77 (x405 : Int).toNat = y := ⟨_, rfl⟩
              have b466 := hV400.get 77 (x405 : Int).toNat (lo := (-9223372036854775808)) (hi := 9223372036854775807) (by decide) (show _ < 9 by omega) rfl
              rw [e465] at b466
              refine pm_laload (len := 9) (v := y464) hC 77 rfl rfl (by decide) ⟨by omega, by omega⟩ (by decide) e465 dX10_partedBy_60 ?_
              refine pm_lload hC 4 dX10_partedBy_61 rfl ?_
              refine pm_lmul hC dX10_partedBy_63 ?_
              refine pm_someL hC (fun y467 b468 => ?_)
              have b468 := And.intro b468.1 b468.2
              refine pm_aload_n hC 0 (by decide) dX10_partedBy_64 rfl ?_
              rcases hV400.get2 73 15 (lo := 76) (hi := 77) (by decide) (by decide) rfl with e469 | e469
              · skip
                refine pm_getf (v := 76) hC 73 fl_X10_56 rfl rfl (by decide) rfl e469 dX10_partedBy_65 ?_
                refine pm_iload hC 6 dX10_partedBy_68 rfl ?_
                obtain ⟨y470, e471⟩ : ∃ y, V398 76 (x405 : Int).toNat = y := ⟨_, rfl⟩
                have b472 := hV400.get 76 (x405 : Int).toNat (lo := (-9223372036854775808)) (hi := 9223372036854775807) (by decide) (show _ < 9 by omega) rfl
                rw [e471] at b472
                refine pm_laload (len := 9) (v := y470) hC 76 rfl rfl (by decide) ⟨by omega, by omega⟩ (by decide) e471 dX10_partedBy_70 ?_
                refine pm_aload_n hC 0 (by decide) dX10_partedBy_71 rfl ?_
                obtain ⟨y473, e474⟩ : ∃ y, V398 73 14 = y := ⟨_, rfl⟩
                have b475 := hV400.get 73 14 (lo := (-9223372036854775808)) (hi := 9223372036854775807) (by decide) (by decide) rfl
                rw [e474] at b475
                refine pm_getf (v := y473) hC 73 fl_X10_53 rfl rfl (by decide) rfl e474 dX10_partedBy_72 ?_
                refine pm_lmul hC dX10_partedBy_75 ?_
                refine pm_someL hC (fun y476 b477 => ?_)
                have b477 := And.intro b477.1 b477.2
                refine pm_lsub hC dX10_partedBy_76 ?_
                refine pm_someL hC (fun y478 b479 => ?_)
                have b479 := And.intro b479.1 b479.2
                refine pm_mabsL hC 5035 5036 1018 5037 ⟨by omega, by omega⟩ (by decide) wL_X10_151 wS_mabsL wI_math wC_mabsL (Nat.le_of_ble_eq_true rfl) dX10_partedBy_77 (fun y480 b481 => ?_)
                have b481 := And.intro b481.1.1 (And.intro b481.1.2 b481.2)
                refine pm_ladd hC dX10_partedBy_80 ?_
                refine pm_someL hC (fun y482 b483 => ?_)
                have b483 := And.intro b483.1 b483.2
                refine pm_lstore (lv' := [(6, (1, y482)), (0, (3, 73)), (1, (0, a1)), (2, (0, a2)), (3, (3, 77)), (4, (1, y394)), (8, (0, x405))]) hC dX10_partedBy_81 (by decide) rfl ?_
                obtain ⟨x484, ei485⟩ : ∃ y : Int, x405 + 1 = y := ⟨_, rfl⟩
                refine pm_iinc (y := x484) (lv' := [(8, (0, x484)), (6, (1, y482)), (0, (3, 73)), (1, (0, a1)), (2, (0, a2)), (3, (3, 77)), (4, (1, y394))]) hC 6 dX10_partedBy_83 (by decide) rfl ei485 rfl ?_
                refine pm_goto (tgt := 40) hC dX10_partedBy_86 (by decide) ?_
                refine pm_lvsub [2, 3, 4, 5, 6, 1, 0] (lv' := [(0, (3, 73)), (1, (0, a1)), (2, (0, a2)), (3, (3, 77)), (4, (1, y394)), (6, (1, y482)), (8, (0, x484))]) rfl ?_
                exact ih410 _ (by omega) y482 x484 ⟨by omega, by omega⟩ ⟨by omega, by omega⟩ rfl
              · skip
                refine pm_getf (v := 77) hC 73 fl_X10_56 rfl rfl (by decide) rfl e469 dX10_partedBy_65 ?_
                refine pm_iload hC 6 dX10_partedBy_68 rfl ?_
                refine pm_laload (len := 9) (v := y464) hC 77 rfl rfl (by decide) ⟨by omega, by omega⟩ (by decide) e465 dX10_partedBy_70 ?_
                refine pm_aload_n hC 0 (by decide) dX10_partedBy_71 rfl ?_
                obtain ⟨y486, e487⟩ : ∃ y, V398 73 14 = y := ⟨_, rfl⟩
                have b488 := hV400.get 73 14 (lo := (-9223372036854775808)) (hi := 9223372036854775807) (by decide) (by decide) rfl
                rw [e487] at b488
                refine pm_getf (v := y486) hC 73 fl_X10_53 rfl rfl (by decide) rfl e487 dX10_partedBy_72 ?_
                refine pm_lmul hC dX10_partedBy_75 ?_
                refine pm_someL hC (fun y489 b490 => ?_)
                have b490 := And.intro b490.1 b490.2
                refine pm_lsub hC dX10_partedBy_76 ?_
                refine pm_someL hC (fun y491 b492 => ?_)
                have b492 := And.intro b492.1 b492.2
                refine pm_mabsL hC 5035 5036 1018 5037 ⟨by omega, by omega⟩ (by decide) wL_X10_151 wS_mabsL wI_math wC_mabsL (Nat.le_of_ble_eq_true rfl) dX10_partedBy_77 (fun y493 b494 => ?_)
                have b494 := And.intro b494.1.1 (And.intro b494.1.2 b494.2)
                refine pm_ladd hC dX10_partedBy_80 ?_
                refine pm_someL hC (fun y495 b496 => ?_)
                have b496 := And.intro b496.1 b496.2
                refine pm_lstore (lv' := [(6, (1, y495)), (0, (3, 73)), (1, (0, a1)), (2, (0, a2)), (3, (3, 77)), (4, (1, y394)), (8, (0, x405))]) hC dX10_partedBy_81 (by decide) rfl ?_
                obtain ⟨x497, ei498⟩ : ∃ y : Int, x405 + 1 = y := ⟨_, rfl⟩
                refine pm_iinc (y := x497) (lv' := [(8, (0, x497)), (6, (1, y495)), (0, (3, 73)), (1, (0, a1)), (2, (0, a2)), (3, (3, 77)), (4, (1, y394))]) hC 6 dX10_partedBy_83 (by decide) rfl ei498 rfl ?_
                refine pm_goto (tgt := 40) hC dX10_partedBy_86 (by decide) ?_
                refine pm_lvsub [2, 3, 4, 5, 6, 1, 0] (lv' := [(0, (3, 73)), (1, (0, a1)), (2, (0, a2)), (3, (3, 77)), (4, (1, y394)), (6, (1, y495)), (8, (0, x497))]) rfl ?_
                exact ih410 _ (by omega) y495 x497 ⟨by omega, by omega⟩ ⟨by omega, by omega⟩ rfl
        · skip
          refine pm_getf (v := 51) hC 73 fl_X10_59 rfl rfl (by decide) rfl e411 dX10_partedBy_43 ?_
          obtain ⟨y499, e500⟩ : ∃ y, V398 51 0 = y := ⟨_, rfl⟩
          have b501 := hV400.get 51 0 (lo := 0) (hi := 9) (by decide) (by decide) rfl
          rw [e500] at b501
          refine pm_getf (v := y499) hC 51 fl_X10_79 rfl rfl (by decide) rfl e500 dX10_partedBy_46 ?_
          refine pm_icmp_ge (tgt := 89) hC ⟨by omega, by omega⟩ ⟨by omega, by omega⟩ dX10_partedBy_49 (by decide) (fun c502 => ?_) (fun c502 => ?_)
          · skip
            refine pm_lload hC 5 dX10_partedBy_89 rfl ?_
            refine pm_ldc2 (v := 2) hC 5038 dX10_partedBy_91 (by decide +kernel) ?_
            refine pm_aload_n hC 0 (by decide) dX10_partedBy_94 rfl ?_
            obtain ⟨y503, e504⟩ : ∃ y, V398 73 14 = y := ⟨_, rfl⟩
            have b505 := hV400.get 73 14 (lo := (-9223372036854775808)) (hi := 9223372036854775807) (by decide) (by decide) rfl
            rw [e504] at b505
            refine pm_getf (v := y503) hC 73 fl_X10_53 rfl rfl (by decide) rfl e504 dX10_partedBy_95 ?_
            refine pm_lmul hC dX10_partedBy_98 ?_
            refine pm_someL hC (fun y506 b507 => ?_)
            have b507 := And.intro b507.1 b507.2
            refine pm_lload hC 4 dX10_partedBy_99 rfl ?_
            refine pm_lmul hC dX10_partedBy_101 ?_
            refine pm_someL hC (fun y508 b509 => ?_)
            have b509 := And.intro b509.1 b509.2
            refine pm_callSN (as := [(1, x403), (1, y508)]) (st := []) hC (c_X11_ofThousand x403 y508 ⟨by omega, by omega⟩ ⟨by omega, by omega⟩) lm_X10_141 ls_X11_ofThousand (by decide) (by decide) rfl rfl (Nat.le_of_ble_eq_true rfl) ⟨Nat.le_refl _, Or.inl rfl⟩ dX10_partedBy_102 ⟨rfl, hV400⟩ (fun r510 V511 hp512 => ?_)
            obtain ⟨y513, rfl, b514, rfl⟩ := hp512
            change pm_J X 105 [(0, (3, 73)), (1, (0, a1)), (2, (0, a2)), (3, (3, 77)), (4, (1, y394)), (6, (1, x403)), (8, (0, x405))] [(0, y513)] 118 V398
            exact pm_iret hC hR pm_nar0 ⟨y513, rfl, ⟨by omega, by omega⟩, hV400, hF402⟩ dX10_partedBy_105
          · skip
            refine pm_lload hC 5 dX10_partedBy_52 rfl ?_
            refine pm_aload_n hC 0 (by decide) dX10_partedBy_54 rfl ?_
            rcases hV400.get2 73 13 (lo := 76) (hi := 77) (by decide) (by decide) rfl with e515 | e515
            · skip
              refine pm_getf (v := 76) hC 73 fl_X10_50 rfl rfl (by decide) rfl e515 dX10_partedBy_55 ?_
              refine pm_iload hC 6 dX10_partedBy_58 rfl ?_
              obtain ⟨y516, e517⟩ : ∃ y, V398 76 (x405 : Int).toNat = y := ⟨_, rfl⟩
              have b518 := hV400.get 76 (x405 : Int).toNat (lo := (-9223372036854775808)) (hi := 9223372036854775807) (by decide) (show _ < 9 by omega) rfl
              rw [e517] at b518
              refine pm_laload (len := 9) (v := y516) hC 76 rfl rfl (by decide) ⟨by omega, by omega⟩ (by decide) e517 dX10_partedBy_60 ?_
              refine pm_lload hC 4 dX10_partedBy_61 rfl ?_
              refine pm_lmul hC dX10_partedBy_63 ?_
              refine pm_someL hC (fun y519 b520 => ?_)
              have b520 := And.intro b520.1 b520.2
              refine pm_aload_n hC 0 (by decide) dX10_partedBy_64 rfl ?_
              rcases hV400.get2 73 15 (lo := 76) (hi := 77) (by decide) (by decide) rfl with e521 | e521
              · skip
                refine pm_getf (v := 76) hC 73 fl_X10_56 rfl rfl (by decide) rfl e521 dX10_partedBy_65 ?_
                refine pm_iload hC 6 dX10_partedBy_68 rfl ?_
                refine pm_laload (len := 9) (v := y516) hC 76 rfl rfl (by decide) ⟨by omega, by omega⟩ (by decide) e517 dX10_partedBy_70 ?_
                refine pm_aload_n hC 0 (by decide) dX10_partedBy_71 rfl ?_
                obtain ⟨y522, e523⟩ : ∃ y, V398 73 14 = y := ⟨_, rfl⟩
                have b524 := hV400.get 73 14 (lo := (-9223372036854775808)) (hi := 9223372036854775807) (by decide) (by decide) rfl
                rw [e523] at b524
                refine pm_getf (v := y522) hC 73 fl_X10_53 rfl rfl (by decide) rfl e523 dX10_partedBy_72 ?_
                refine pm_lmul hC dX10_partedBy_75 ?_
                refine pm_someL hC (fun y525 b526 => ?_)
                have b526 := And.intro b526.1 b526.2
                refine pm_lsub hC dX10_partedBy_76 ?_
                refine pm_someL hC (fun y527 b528 => ?_)
                have b528 := And.intro b528.1 b528.2
                refine pm_mabsL hC 5035 5036 1018 5037 ⟨by omega, by omega⟩ (by decide) wL_X10_151 wS_mabsL wI_math wC_mabsL (Nat.le_of_ble_eq_true rfl) dX10_partedBy_77 (fun y529 b530 => ?_)
                have b530 := And.intro b530.1.1 (And.intro b530.1.2 b530.2)
                refine pm_ladd hC dX10_partedBy_80 ?_
                refine pm_someL hC (fun y531 b532 => ?_)
                have b532 := And.intro b532.1 b532.2
                refine pm_lstore (lv' := [(6, (1, y531)), (0, (3, 73)), (1, (0, a1)), (2, (0, a2)), (3, (3, 77)), (4, (1, y394)), (8, (0, x405))]) hC dX10_partedBy_81 (by decide) rfl ?_
                obtain ⟨x533, ei534⟩ : ∃ y : Int, x405 + 1 = y := ⟨_, rfl⟩
                refine pm_iinc (y := x533) (lv' := [(8, (0, x533)), (6, (1, y531)), (0, (3, 73)), (1, (0, a1)), (2, (0, a2)), (3, (3, 77)), (4, (1, y394))]) hC 6 dX10_partedBy_83 (by decide) rfl ei534 rfl ?_
                refine pm_goto (tgt := 40) hC dX10_partedBy_86 (by decide) ?_
                refine pm_lvsub [2, 3, 4, 5, 6, 1, 0] (lv' := [(0, (3, 73)), (1, (0, a1)), (2, (0, a2)), (3, (3, 77)), (4, (1, y394)), (6, (1, y531)), (8, (0, x533))]) rfl ?_
                exact ih410 _ (by omega) y531 x533 ⟨by omega, by omega⟩ ⟨by omega, by omega⟩ rfl
              · skip
                refine pm_getf (v := 77) hC 73 fl_X10_56 rfl rfl (by decide) rfl e521 dX10_partedBy_65 ?_
                refine pm_iload hC 6 dX10_partedBy_68 rfl ?_
                obtain ⟨y535, e536⟩ : ∃ y, V398 77 (x405 : Int).toNat = y := ⟨_, rfl⟩
                have b537 := hV400.get 77 (x405 : Int).toNat (lo := (-9223372036854775808)) (hi := 9223372036854775807) (by decide) (show _ < 9 by omega) rfl
                rw [e536] at b537
                refine pm_laload (len := 9) (v := y535) hC 77 rfl rfl (by decide) ⟨by omega, by omega⟩ (by decide) e536 dX10_partedBy_70 ?_
                refine pm_aload_n hC 0 (by decide) dX10_partedBy_71 rfl ?_
                obtain ⟨y538, e539⟩ : ∃ y, V398 73 14 = y := ⟨_, rfl⟩
                have b540 := hV400.get 73 14 (lo := (-9223372036854775808)) (hi := 9223372036854775807) (by decide) (by decide) rfl
                rw [e539] at b540
                refine pm_getf (v := y538) hC 73 fl_X10_53 rfl rfl (by decide) rfl e539 dX10_partedBy_72 ?_
                refine pm_lmul hC dX10_partedBy_75 ?_
                refine pm_someL hC (fun y541 b542 => ?_)
                have b542 := And.intro b542.1 b542.2
                refine pm_lsub hC dX10_partedBy_76 ?_
                refine pm_someL hC (fun y543 b544 => ?_)
                have b544 := And.intro b544.1 b544.2
                refine pm_mabsL hC 5035 5036 1018 5037 ⟨by omega, by omega⟩ (by decide) wL_X10_151 wS_mabsL wI_math wC_mabsL (Nat.le_of_ble_eq_true rfl) dX10_partedBy_77 (fun y545 b546 => ?_)
                have b546 := And.intro b546.1.1 (And.intro b546.1.2 b546.2)
                refine pm_ladd hC dX10_partedBy_80 ?_
                refine pm_someL hC (fun y547 b548 => ?_)
                have b548 := And.intro b548.1 b548.2
                refine pm_lstore (lv' := [(6, (1, y547)), (0, (3, 73)), (1, (0, a1)), (2, (0, a2)), (3, (3, 77)), (4, (1, y394)), (8, (0, x405))]) hC dX10_partedBy_81 (by decide) rfl ?_
                obtain ⟨x549, ei550⟩ : ∃ y : Int, x405 + 1 = y := ⟨_, rfl⟩
                refine pm_iinc (y := x549) (lv' := [(8, (0, x549)), (6, (1, y547)), (0, (3, 73)), (1, (0, a1)), (2, (0, a2)), (3, (3, 77)), (4, (1, y394))]) hC 6 dX10_partedBy_83 (by decide) rfl ei550 rfl ?_
                refine pm_goto (tgt := 40) hC dX10_partedBy_86 (by decide) ?_
                refine pm_lvsub [2, 3, 4, 5, 6, 1, 0] (lv' := [(0, (3, 73)), (1, (0, a1)), (2, (0, a2)), (3, (3, 77)), (4, (1, y394)), (6, (1, y547)), (8, (0, x549))]) rfl ?_
                exact ih410 _ (by omega) y547 x549 ⟨by omega, by omega⟩ ⟨by omega, by omega⟩ rfl
            · skip
              refine pm_getf (v := 77) hC 73 fl_X10_50 rfl rfl (by decide) rfl e515 dX10_partedBy_55 ?_
              refine pm_iload hC 6 dX10_partedBy_58 rfl ?_
              obtain ⟨y551, e552⟩ : ∃ y, V398 77 (x405 : Int).toNat = y := ⟨_, rfl⟩
              have b553 := hV400.get 77 (x405 : Int).toNat (lo := (-9223372036854775808)) (hi := 9223372036854775807) (by decide) (show _ < 9 by omega) rfl
              rw [e552] at b553
              refine pm_laload (len := 9) (v := y551) hC 77 rfl rfl (by decide) ⟨by omega, by omega⟩ (by decide) e552 dX10_partedBy_60 ?_
              refine pm_lload hC 4 dX10_partedBy_61 rfl ?_
              refine pm_lmul hC dX10_partedBy_63 ?_
              refine pm_someL hC (fun y554 b555 => ?_)
              have b555 := And.intro b555.1 b555.2
              refine pm_aload_n hC 0 (by decide) dX10_partedBy_64 rfl ?_
              rcases hV400.get2 73 15 (lo := 76) (hi := 77) (by decide) (by decide) rfl with e556 | e556
              · skip
                refine pm_getf (v := 76) hC 73 fl_X10_56 rfl rfl (by decide) rfl e556 dX10_partedBy_65 ?_
                refine pm_iload hC 6 dX10_partedBy_68 rfl ?_
                obtain ⟨y557, e558⟩ : ∃ y, V398 76 (x405 : Int).toNat = y := ⟨_, rfl⟩
                have b559 := hV400.get 76 (x405 : Int).toNat (lo := (-9223372036854775808)) (hi := 9223372036854775807) (by decide) (show _ < 9 by omega) rfl
                rw [e558] at b559
                refine pm_laload (len := 9) (v := y557) hC 76 rfl rfl (by decide) ⟨by omega, by omega⟩ (by decide) e558 dX10_partedBy_70 ?_
                refine pm_aload_n hC 0 (by decide) dX10_partedBy_71 rfl ?_
                obtain ⟨y560, e561⟩ : ∃ y, V398 73 14 = y := ⟨_, rfl⟩
                have b562 := hV400.get 73 14 (lo := (-9223372036854775808)) (hi := 9223372036854775807) (by decide) (by decide) rfl
                rw [e561] at b562
                refine pm_getf (v := y560) hC 73 fl_X10_53 rfl rfl (by decide) rfl e561 dX10_partedBy_72 ?_
                refine pm_lmul hC dX10_partedBy_75 ?_
                refine pm_someL hC (fun y563 b564 => ?_)
                have b564 := And.intro b564.1 b564.2
                refine pm_lsub hC dX10_partedBy_76 ?_
                refine pm_someL hC (fun y565 b566 => ?_)
                have b566 := And.intro b566.1 b566.2
                refine pm_mabsL hC 5035 5036 1018 5037 ⟨by omega, by omega⟩ (by decide) wL_X10_151 wS_mabsL wI_math wC_mabsL (Nat.le_of_ble_eq_true rfl) dX10_partedBy_77 (fun y567 b568 => ?_)
                have b568 := And.intro b568.1.1 (And.intro b568.1.2 b568.2)
                refine pm_ladd hC dX10_partedBy_80 ?_
                refine pm_someL hC (fun y569 b570 => ?_)
                have b570 := And.intro b570.1 b570.2
                refine pm_lstore (lv' := [(6, (1, y569)), (0, (3, 73)), (1, (0, a1)), (2, (0, a2)), (3, (3, 77)), (4, (1, y394)), (8, (0, x405))]) hC dX10_partedBy_81 (by decide) rfl ?_
                obtain ⟨x571, ei572⟩ : ∃ y : Int, x405 + 1 = y := ⟨_, rfl⟩
                refine pm_iinc (y := x571) (lv' := [(8, (0, x571)), (6, (1, y569)), (0, (3, 73)), (1, (0, a1)), (2, (0, a2)), (3, (3, 77)), (4, (1, y394))]) hC 6 dX10_partedBy_83 (by decide) rfl ei572 rfl ?_
                refine pm_goto (tgt := 40) hC dX10_partedBy_86 (by decide) ?_
                refine pm_lvsub [2, 3, 4, 5, 6, 1, 0] (lv' := [(0, (3, 73)), (1, (0, a1)), (2, (0, a2)), (3, (3, 77)), (4, (1, y394)), (6, (1, y569)), (8, (0, x571))]) rfl ?_
                exact ih410 _ (by omega) y569 x571 ⟨by omega, by omega⟩ ⟨by omega, by omega⟩ rfl
              · skip
                refine pm_getf (v := 77) hC 73 fl_X10_56 rfl rfl (by decide) rfl e556 dX10_partedBy_65 ?_
                refine pm_iload hC 6 dX10_partedBy_68 rfl ?_
                refine pm_laload (len := 9) (v := y551) hC 77 rfl rfl (by decide) ⟨by omega, by omega⟩ (by decide) e552 dX10_partedBy_70 ?_
                refine pm_aload_n hC 0 (by decide) dX10_partedBy_71 rfl ?_
                obtain ⟨y573, e574⟩ : ∃ y, V398 73 14 = y := ⟨_, rfl⟩
                have b575 := hV400.get 73 14 (lo := (-9223372036854775808)) (hi := 9223372036854775807) (by decide) (by decide) rfl
                rw [e574] at b575
                refine pm_getf (v := y573) hC 73 fl_X10_53 rfl rfl (by decide) rfl e574 dX10_partedBy_72 ?_
                refine pm_lmul hC dX10_partedBy_75 ?_
                refine pm_someL hC (fun y576 b577 => ?_)
                have b577 := And.intro b577.1 b577.2
                refine pm_lsub hC dX10_partedBy_76 ?_
                refine pm_someL hC (fun y578 b579 => ?_)
                have b579 := And.intro b579.1 b579.2
                refine pm_mabsL hC 5035 5036 1018 5037 ⟨by omega, by omega⟩ (by decide) wL_X10_151 wS_mabsL wI_math wC_mabsL (Nat.le_of_ble_eq_true rfl) dX10_partedBy_77 (fun y580 b581 => ?_)
                have b581 := And.intro b581.1.1 (And.intro b581.1.2 b581.2)
                refine pm_ladd hC dX10_partedBy_80 ?_
                refine pm_someL hC (fun y582 b583 => ?_)
                have b583 := And.intro b583.1 b583.2
                refine pm_lstore (lv' := [(6, (1, y582)), (0, (3, 73)), (1, (0, a1)), (2, (0, a2)), (3, (3, 77)), (4, (1, y394)), (8, (0, x405))]) hC dX10_partedBy_81 (by decide) rfl ?_
                obtain ⟨x584, ei585⟩ : ∃ y : Int, x405 + 1 = y := ⟨_, rfl⟩
                refine pm_iinc (y := x584) (lv' := [(8, (0, x584)), (6, (1, y582)), (0, (3, 73)), (1, (0, a1)), (2, (0, a2)), (3, (3, 77)), (4, (1, y394))]) hC 6 dX10_partedBy_83 (by decide) rfl ei585 rfl ?_
                refine pm_goto (tgt := 40) hC dX10_partedBy_86 (by decide) ?_
                refine pm_lvsub [2, 3, 4, 5, 6, 1, 0] (lv' := [(0, (3, 73)), (1, (0, a1)), (2, (0, a2)), (3, (3, 77)), (4, (1, y394)), (6, (1, y582)), (8, (0, x584))]) rfl ?_
                exact ih410 _ (by omega) y582 x584 ⟨by omega, by omega⟩ ⟨by omega, by omega⟩ rfl
      refine pm_lvsub [4, 5, 6, 3, 2, 1, 0] (lv' := [(0, (3, 73)), (1, (0, a1)), (2, (0, a2)), (3, (3, 77)), (4, (1, y394)), (6, (1, 0)), (8, (0, 0))]) rfl ?_
      exact L407 _ 0 0 ⟨by decide, by decide⟩ ⟨by decide, by decide⟩ rfl
    · skip
      refine pm_getf (v := 77) hC 73 fl_X10_56 rfl rfl (by decide) rfl e393 dX10_partedBy_12 ?_
      refine pm_putf hC 73 fl_X10_50 rfl rfl rfl (by decide) rfl trivial dX10_partedBy_15 ?_
      refine pm_aload_n hC 1 (by decide) dX10_partedBy_18 rfl ?_
      refine pm_aload_n hC 0 (by decide) dX10_partedBy_19 rfl ?_
      refine pm_putf hC 73 fl_X10_56 rfl rfl rfl (by decide) rfl trivial dX10_partedBy_20 ?_
      refine pm_aload_n hC 1 (by decide) dX10_partedBy_23 rfl ?_
      obtain ⟨y586, e587⟩ : ∃ y, V2 73 14 = y := ⟨_, rfl⟩
      have b588 := hV4.get 73 14 (lo := (-9223372036854775808)) (hi := 9223372036854775807) (by decide) (by decide) rfl
      rw [e587] at b588
      refine pm_getf (v := y586) hC 73 fl_X10_53 rfl rfl (by decide) rfl e587 dX10_partedBy_24 ?_
      refine pm_lstore (lv' := [(4, (1, y586)), (3, (3, 77)), (0, (3, 73)), (1, (0, a1)), (2, (0, a2))]) hC dX10_partedBy_27 (by decide) rfl ?_
      refine pm_aload_n hC 2 (by decide) dX10_partedBy_29 rfl ?_
      refine pm_iload_n hC 4 dX10_partedBy_30 rfl ?_
      refine pm_callV (ci := 10) (as := [(0, a2)]) (st := []) hC 73 (c_X10_weigh_73 a2 ⟨by omega, by omega⟩) lm_X10_148 li_X10_weigh (by decide) (by decide) rfl rfl rfl (by decide) rfl rfl (Nat.le_of_ble_eq_true rfl) ⟨Nat.le_refl _, Or.inl rfl⟩ dX10_partedBy_31 ⟨rfl, ((hV4.put2 73 13 (x := 77) (lo := 76) (hi := 77) rfl ⟨by omega, by decide⟩).put2 73 15 (x := 77) (lo := 76) (hi := 77) rfl ⟨by omega, by decide⟩)⟩ (fun r589 V590 hp591 => ?_)
      obtain ⟨rfl, hV592, hF593⟩ := hp591
      change pm_J X 34 [(4, (1, y586)), (3, (3, 77)), (0, (3, 73)), (1, (0, a1)), (2, (0, a2))] [] 118 V590
      have hF594 := pm_fr.tr ((hF6.up 73 13 77 rfl).up 73 15 77 rfl) hF593 (by decide)
      refine pm_lconst (x := 0) hC dX10_partedBy_34 rfl ?_
      refine pm_lstore (lv' := [(6, (1, 0)), (4, (1, y586)), (3, (3, 77)), (0, (3, 73)), (1, (0, a1)), (2, (0, a2))]) hC dX10_partedBy_35 (by decide) rfl ?_
      refine pm_iconst (v := 0) hC dX10_partedBy_37 ?_
      refine pm_istore (lv' := [(8, (0, 0)), (6, (1, 0)), (4, (1, y586)), (3, (3, 77)), (0, (3, 73)), (1, (0, a1)), (2, (0, a2))]) hC dX10_partedBy_38 (by decide) rfl ?_
      have L599 : ∀ (N601 : Nat) (x595 : Int) (x597 : Int), ((-9223372036854775808) ≤ x595 ∧ x595 ≤ 9223372036854775807) → (0 ≤ x597 ∧ x597 ≤ 9) → (Int.toNat (9 - x597)) = N601 → pm_J X 40 [(0, (3, 73)), (1, (0, a1)), (2, (0, a2)), (3, (3, 77)), (4, (1, y586)), (6, (1, x595)), (8, (0, x597))] [] 118 V590 := by
        intro N601
        induction N601 using Nat.strongRecOn with
        | _ N601 ih602 =>
        intro x595 x597 b596 b598 hm600
        refine pm_iload hC 6 dX10_partedBy_40 rfl ?_
        refine pm_aload_n hC 0 (by decide) dX10_partedBy_42 rfl ?_
        rcases hV592.get2 73 0 (lo := 45) (hi := 51) (by decide) (by decide) rfl with e603 | e603
        · skip
          refine pm_getf (v := 45) hC 73 fl_X10_59 rfl rfl (by decide) rfl e603 dX10_partedBy_43 ?_
          obtain ⟨y604, e605⟩ : ∃ y, V590 45 0 = y := ⟨_, rfl⟩
          have b606 := hV592.get 45 0 (lo := 0) (hi := 9) (by decide) (by decide) rfl
          rw [e605] at b606
          refine pm_getf (v := y604) hC 45 fl_X10_79 rfl rfl (by decide) rfl e605 dX10_partedBy_46 ?_
          refine pm_icmp_ge (tgt := 89) hC ⟨by omega, by omega⟩ ⟨by omega, by omega⟩ dX10_partedBy_49 (by decide) (fun c607 => ?_) (fun c607 => ?_)
          · skip
            refine pm_lload hC 5 dX10_partedBy_89 rfl ?_
            refine pm_ldc2 (v := 2) hC 5038 dX10_partedBy_91 (by decide +kernel) ?_
            refine pm_aload_n hC 0 (by decide) dX10_partedBy_94 rfl ?_
            obtain ⟨y608, e609⟩ : ∃ y, V590 73 14 = y := ⟨_, rfl⟩
            have b610 := hV592.get 73 14 (lo := (-9223372036854775808)) (hi := 9223372036854775807) (by decide) (by decide) rfl
            rw [e609] at b610
            refine pm_getf (v := y608) hC 73 fl_X10_53 rfl rfl (by decide) rfl e609 dX10_partedBy_95 ?_
            refine pm_lmul hC dX10_partedBy_98 ?_
            refine pm_someL hC (fun y611 b612 => ?_)
            have b612 := And.intro b612.1 b612.2
            refine pm_lload hC 4 dX10_partedBy_99 rfl ?_
            refine pm_lmul hC dX10_partedBy_101 ?_
            refine pm_someL hC (fun y613 b614 => ?_)
            have b614 := And.intro b614.1 b614.2
            refine pm_callSN (as := [(1, x595), (1, y613)]) (st := []) hC (c_X11_ofThousand x595 y613 ⟨by omega, by omega⟩ ⟨by omega, by omega⟩) lm_X10_141 ls_X11_ofThousand (by decide) (by decide) rfl rfl (Nat.le_of_ble_eq_true rfl) ⟨Nat.le_refl _, Or.inl rfl⟩ dX10_partedBy_102 ⟨rfl, hV592⟩ (fun r615 V616 hp617 => ?_)
            obtain ⟨y618, rfl, b619, rfl⟩ := hp617
            change pm_J X 105 [(0, (3, 73)), (1, (0, a1)), (2, (0, a2)), (3, (3, 77)), (4, (1, y586)), (6, (1, x595)), (8, (0, x597))] [(0, y618)] 118 V590
            exact pm_iret hC hR pm_nar0 ⟨y618, rfl, ⟨by omega, by omega⟩, hV592, hF594⟩ dX10_partedBy_105
          · skip
            refine pm_lload hC 5 dX10_partedBy_52 rfl ?_
            refine pm_aload_n hC 0 (by decide) dX10_partedBy_54 rfl ?_
            rcases hV592.get2 73 13 (lo := 76) (hi := 77) (by decide) (by decide) rfl with e620 | e620
            · skip
              refine pm_getf (v := 76) hC 73 fl_X10_50 rfl rfl (by decide) rfl e620 dX10_partedBy_55 ?_
              refine pm_iload hC 6 dX10_partedBy_58 rfl ?_
              obtain ⟨y621, e622⟩ : ∃ y, V590 76 (x597 : Int).toNat = y := ⟨_, rfl⟩
              have b623 := hV592.get 76 (x597 : Int).toNat (lo := (-9223372036854775808)) (hi := 9223372036854775807) (by decide) (show _ < 9 by omega) rfl
              rw [e622] at b623
              refine pm_laload (len := 9) (v := y621) hC 76 rfl rfl (by decide) ⟨by omega, by omega⟩ (by decide) e622 dX10_partedBy_60 ?_
              refine pm_lload hC 4 dX10_partedBy_61 rfl ?_
              refine pm_lmul hC dX10_partedBy_63 ?_
              refine pm_someL hC (fun y624 b625 => ?_)
              have b625 := And.intro b625.1 b625.2
              refine pm_aload_n hC 0 (by decide) dX10_partedBy_64 rfl ?_
              rcases hV592.get2 73 15 (lo := 76) (hi := 77) (by decide) (by decide) rfl with e626 | e626
              · skip
                refine pm_getf (v := 76) hC 73 fl_X10_56 rfl rfl (by decide) rfl e626 dX10_partedBy_65 ?_
                refine pm_iload hC 6 dX10_partedBy_68 rfl ?_
                refine pm_laload (len := 9) (v := y621) hC 76 rfl rfl (by decide) ⟨by omega, by omega⟩ (by decide) e622 dX10_partedBy_70 ?_
                refine pm_aload_n hC 0 (by decide) dX10_partedBy_71 rfl ?_
                obtain ⟨y627, e628⟩ : ∃ y, V590 73 14 = y := ⟨_, rfl⟩
                have b629 := hV592.get 73 14 (lo := (-9223372036854775808)) (hi := 9223372036854775807) (by decide) (by decide) rfl
                rw [e628] at b629
                refine pm_getf (v := y627) hC 73 fl_X10_53 rfl rfl (by decide) rfl e628 dX10_partedBy_72 ?_
                refine pm_lmul hC dX10_partedBy_75 ?_
                refine pm_someL hC (fun y630 b631 => ?_)
                have b631 := And.intro b631.1 b631.2
                refine pm_lsub hC dX10_partedBy_76 ?_
                refine pm_someL hC (fun y632 b633 => ?_)
                have b633 := And.intro b633.1 b633.2
                refine pm_mabsL hC 5035 5036 1018 5037 ⟨by omega, by omega⟩ (by decide) wL_X10_151 wS_mabsL wI_math wC_mabsL (Nat.le_of_ble_eq_true rfl) dX10_partedBy_77 (fun y634 b635 => ?_)
                have b635 := And.intro b635.1.1 (And.intro b635.1.2 b635.2)
                refine pm_ladd hC dX10_partedBy_80 ?_
                refine pm_someL hC (fun y636 b637 => ?_)
                have b637 := And.intro b637.1 b637.2
                refine pm_lstore (lv' := [(6, (1, y636)), (0, (3, 73)), (1, (0, a1)), (2, (0, a2)), (3, (3, 77)), (4, (1, y586)), (8, (0, x597))]) hC dX10_partedBy_81 (by decide) rfl ?_
                obtain ⟨x638, ei639⟩ : ∃ y : Int, x597 + 1 = y := ⟨_, rfl⟩
                refine pm_iinc (y := x638) (lv' := [(8, (0, x638)), (6, (1, y636)), (0, (3, 73)), (1, (0, a1)), (2, (0, a2)), (3, (3, 77)), (4, (1, y586))]) hC 6 dX10_partedBy_83 (by decide) rfl ei639 rfl ?_
                refine pm_goto (tgt := 40) hC dX10_partedBy_86 (by decide) ?_
                refine pm_lvsub [2, 3, 4, 5, 6, 1, 0] (lv' := [(0, (3, 73)), (1, (0, a1)), (2, (0, a2)), (3, (3, 77)), (4, (1, y586)), (6, (1, y636)), (8, (0, x638))]) rfl ?_
                exact ih602 _ (by omega) y636 x638 ⟨by omega, by omega⟩ ⟨by omega, by omega⟩ rfl
              · skip
                refine pm_getf (v := 77) hC 73 fl_X10_56 rfl rfl (by decide) rfl e626 dX10_partedBy_65 ?_
                refine pm_iload hC 6 dX10_partedBy_68 rfl ?_
                obtain ⟨y640, e641⟩ : ∃ y, V590 77 (x597 : Int).toNat = y := ⟨_, rfl⟩
                have b642 := hV592.get 77 (x597 : Int).toNat (lo := (-9223372036854775808)) (hi := 9223372036854775807) (by decide) (show _ < 9 by omega) rfl
                rw [e641] at b642
                refine pm_laload (len := 9) (v := y640) hC 77 rfl rfl (by decide) ⟨by omega, by omega⟩ (by decide) e641 dX10_partedBy_70 ?_
                refine pm_aload_n hC 0 (by decide) dX10_partedBy_71 rfl ?_
                obtain ⟨y643, e644⟩ : ∃ y, V590 73 14 = y := ⟨_, rfl⟩
                have b645 := hV592.get 73 14 (lo := (-9223372036854775808)) (hi := 9223372036854775807) (by decide) (by decide) rfl
                rw [e644] at b645
                refine pm_getf (v := y643) hC 73 fl_X10_53 rfl rfl (by decide) rfl e644 dX10_partedBy_72 ?_
                refine pm_lmul hC dX10_partedBy_75 ?_
                refine pm_someL hC (fun y646 b647 => ?_)
                have b647 := And.intro b647.1 b647.2
                refine pm_lsub hC dX10_partedBy_76 ?_
                refine pm_someL hC (fun y648 b649 => ?_)
                have b649 := And.intro b649.1 b649.2
                refine pm_mabsL hC 5035 5036 1018 5037 ⟨by omega, by omega⟩ (by decide) wL_X10_151 wS_mabsL wI_math wC_mabsL (Nat.le_of_ble_eq_true rfl) dX10_partedBy_77 (fun y650 b651 => ?_)
                have b651 := And.intro b651.1.1 (And.intro b651.1.2 b651.2)
                refine pm_ladd hC dX10_partedBy_80 ?_
                refine pm_someL hC (fun y652 b653 => ?_)
                have b653 := And.intro b653.1 b653.2
                refine pm_lstore (lv' := [(6, (1, y652)), (0, (3, 73)), (1, (0, a1)), (2, (0, a2)), (3, (3, 77)), (4, (1, y586)), (8, (0, x597))]) hC dX10_partedBy_81 (by decide) rfl ?_
                obtain ⟨x654, ei655⟩ : ∃ y : Int, x597 + 1 = y := ⟨_, rfl⟩
                refine pm_iinc (y := x654) (lv' := [(8, (0, x654)), (6, (1, y652)), (0, (3, 73)), (1, (0, a1)), (2, (0, a2)), (3, (3, 77)), (4, (1, y586))]) hC 6 dX10_partedBy_83 (by decide) rfl ei655 rfl ?_
                refine pm_goto (tgt := 40) hC dX10_partedBy_86 (by decide) ?_
                refine pm_lvsub [2, 3, 4, 5, 6, 1, 0] (lv' := [(0, (3, 73)), (1, (0, a1)), (2, (0, a2)), (3, (3, 77)), (4, (1, y586)), (6, (1, y652)), (8, (0, x654))]) rfl ?_
                exact ih602 _ (by omega) y652 x654 ⟨by omega, by omega⟩ ⟨by omega, by omega⟩ rfl
            · skip
              refine pm_getf (v := 77) hC 73 fl_X10_50 rfl rfl (by decide) rfl e620 dX10_partedBy_55 ?_
              refine pm_iload hC 6 dX10_partedBy_58 rfl ?_
              obtain ⟨y656, e657⟩ : ∃ y, V590 77 (x597 : Int).toNat = y := ⟨_, rfl⟩
              have b658 := hV592.get 77 (x597 : Int).toNat (lo := (-9223372036854775808)) (hi := 9223372036854775807) (by decide) (show _ < 9 by omega) rfl
              rw [e657] at b658
              refine pm_laload (len := 9) (v := y656) hC 77 rfl rfl (by decide) ⟨by omega, by omega⟩ (by decide) e657 dX10_partedBy_60 ?_
              refine pm_lload hC 4 dX10_partedBy_61 rfl ?_
              refine pm_lmul hC dX10_partedBy_63 ?_
              refine pm_someL hC (fun y659 b660 => ?_)
              have b660 := And.intro b660.1 b660.2
              refine pm_aload_n hC 0 (by decide) dX10_partedBy_64 rfl ?_
              rcases hV592.get2 73 15 (lo := 76) (hi := 77) (by decide) (by decide) rfl with e661 | e661
              · skip
                refine pm_getf (v := 76) hC 73 fl_X10_56 rfl rfl (by decide) rfl e661 dX10_partedBy_65 ?_
                refine pm_iload hC 6 dX10_partedBy_68 rfl ?_
                obtain ⟨y662, e663⟩ : ∃ y, V590 76 (x597 : Int).toNat = y := ⟨_, rfl⟩
                have b664 := hV592.get 76 (x597 : Int).toNat (lo := (-9223372036854775808)) (hi := 9223372036854775807) (by decide) (show _ < 9 by omega) rfl
                rw [e663] at b664
                refine pm_laload (len := 9) (v := y662) hC 76 rfl rfl (by decide) ⟨by omega, by omega⟩ (by decide) e663 dX10_partedBy_70 ?_
                refine pm_aload_n hC 0 (by decide) dX10_partedBy_71 rfl ?_
                obtain ⟨y665, e666⟩ : ∃ y, V590 73 14 = y := ⟨_, rfl⟩
                have b667 := hV592.get 73 14 (lo := (-9223372036854775808)) (hi := 9223372036854775807) (by decide) (by decide) rfl
                rw [e666] at b667
                refine pm_getf (v := y665) hC 73 fl_X10_53 rfl rfl (by decide) rfl e666 dX10_partedBy_72 ?_
                refine pm_lmul hC dX10_partedBy_75 ?_
                refine pm_someL hC (fun y668 b669 => ?_)
                have b669 := And.intro b669.1 b669.2
                refine pm_lsub hC dX10_partedBy_76 ?_
                refine pm_someL hC (fun y670 b671 => ?_)
                have b671 := And.intro b671.1 b671.2
                refine pm_mabsL hC 5035 5036 1018 5037 ⟨by omega, by omega⟩ (by decide) wL_X10_151 wS_mabsL wI_math wC_mabsL (Nat.le_of_ble_eq_true rfl) dX10_partedBy_77 (fun y672 b673 => ?_)
                have b673 := And.intro b673.1.1 (And.intro b673.1.2 b673.2)
                refine pm_ladd hC dX10_partedBy_80 ?_
                refine pm_someL hC (fun y674 b675 => ?_)
                have b675 := And.intro b675.1 b675.2
                refine pm_lstore (lv' := [(6, (1, y674)), (0, (3, 73)), (1, (0, a1)), (2, (0, a2)), (3, (3, 77)), (4, (1, y586)), (8, (0, x597))]) hC dX10_partedBy_81 (by decide) rfl ?_
                obtain ⟨x676, ei677⟩ : ∃ y : Int, x597 + 1 = y := ⟨_, rfl⟩
                refine pm_iinc (y := x676) (lv' := [(8, (0, x676)), (6, (1, y674)), (0, (3, 73)), (1, (0, a1)), (2, (0, a2)), (3, (3, 77)), (4, (1, y586))]) hC 6 dX10_partedBy_83 (by decide) rfl ei677 rfl ?_
                refine pm_goto (tgt := 40) hC dX10_partedBy_86 (by decide) ?_
                refine pm_lvsub [2, 3, 4, 5, 6, 1, 0] (lv' := [(0, (3, 73)), (1, (0, a1)), (2, (0, a2)), (3, (3, 77)), (4, (1, y586)), (6, (1, y674)), (8, (0, x676))]) rfl ?_
                exact ih602 _ (by omega) y674 x676 ⟨by omega, by omega⟩ ⟨by omega, by omega⟩ rfl
              · skip
                refine pm_getf (v := 77) hC 73 fl_X10_56 rfl rfl (by decide) rfl e661 dX10_partedBy_65 ?_
                refine pm_iload hC 6 dX10_partedBy_68 rfl ?_
                refine pm_laload (len := 9) (v := y656) hC 77 rfl rfl (by decide) ⟨by omega, by omega⟩ (by decide) e657 dX10_partedBy_70 ?_
                refine pm_aload_n hC 0 (by decide) dX10_partedBy_71 rfl ?_
                obtain ⟨y678, e679⟩ : ∃ y, V590 73 14 = y := ⟨_, rfl⟩
                have b680 := hV592.get 73 14 (lo := (-9223372036854775808)) (hi := 9223372036854775807) (by decide) (by decide) rfl
                rw [e679] at b680
                refine pm_getf (v := y678) hC 73 fl_X10_53 rfl rfl (by decide) rfl e679 dX10_partedBy_72 ?_
                refine pm_lmul hC dX10_partedBy_75 ?_
                refine pm_someL hC (fun y681 b682 => ?_)
                have b682 := And.intro b682.1 b682.2
                refine pm_lsub hC dX10_partedBy_76 ?_
                refine pm_someL hC (fun y683 b684 => ?_)
                have b684 := And.intro b684.1 b684.2
                refine pm_mabsL hC 5035 5036 1018 5037 ⟨by omega, by omega⟩ (by decide) wL_X10_151 wS_mabsL wI_math wC_mabsL (Nat.le_of_ble_eq_true rfl) dX10_partedBy_77 (fun y685 b686 => ?_)
                have b686 := And.intro b686.1.1 (And.intro b686.1.2 b686.2)
                refine pm_ladd hC dX10_partedBy_80 ?_
                refine pm_someL hC (fun y687 b688 => ?_)
                have b688 := And.intro b688.1 b688.2
                refine pm_lstore (lv' := [(6, (1, y687)), (0, (3, 73)), (1, (0, a1)), (2, (0, a2)), (3, (3, 77)), (4, (1, y586)), (8, (0, x597))]) hC dX10_partedBy_81 (by decide) rfl ?_
                obtain ⟨x689, ei690⟩ : ∃ y : Int, x597 + 1 = y := ⟨_, rfl⟩
                refine pm_iinc (y := x689) (lv' := [(8, (0, x689)), (6, (1, y687)), (0, (3, 73)), (1, (0, a1)), (2, (0, a2)), (3, (3, 77)), (4, (1, y586))]) hC 6 dX10_partedBy_83 (by decide) rfl ei690 rfl ?_
                refine pm_goto (tgt := 40) hC dX10_partedBy_86 (by decide) ?_
                refine pm_lvsub [2, 3, 4, 5, 6, 1, 0] (lv' := [(0, (3, 73)), (1, (0, a1)), (2, (0, a2)), (3, (3, 77)), (4, (1, y586)), (6, (1, y687)), (8, (0, x689))]) rfl ?_
                exact ih602 _ (by omega) y687 x689 ⟨by omega, by omega⟩ ⟨by omega, by omega⟩ rfl
        · skip
          refine pm_getf (v := 51) hC 73 fl_X10_59 rfl rfl (by decide) rfl e603 dX10_partedBy_43 ?_
          obtain ⟨y691, e692⟩ : ∃ y, V590 51 0 = y := ⟨_, rfl⟩
          have b693 := hV592.get 51 0 (lo := 0) (hi := 9) (by decide) (by decide) rfl
          rw [e692] at b693
          refine pm_getf (v := y691) hC 51 fl_X10_79 rfl rfl (by decide) rfl e692 dX10_partedBy_46 ?_
          refine pm_icmp_ge (tgt := 89) hC ⟨by omega, by omega⟩ ⟨by omega, by omega⟩ dX10_partedBy_49 (by decide) (fun c694 => ?_) (fun c694 => ?_)
          · skip
            refine pm_lload hC 5 dX10_partedBy_89 rfl ?_
            refine pm_ldc2 (v := 2) hC 5038 dX10_partedBy_91 (by decide +kernel) ?_
            refine pm_aload_n hC 0 (by decide) dX10_partedBy_94 rfl ?_
            obtain ⟨y695, e696⟩ : ∃ y, V590 73 14 = y := ⟨_, rfl⟩
            have b697 := hV592.get 73 14 (lo := (-9223372036854775808)) (hi := 9223372036854775807) (by decide) (by decide) rfl
            rw [e696] at b697
            refine pm_getf (v := y695) hC 73 fl_X10_53 rfl rfl (by decide) rfl e696 dX10_partedBy_95 ?_
            refine pm_lmul hC dX10_partedBy_98 ?_
            refine pm_someL hC (fun y698 b699 => ?_)
            have b699 := And.intro b699.1 b699.2
            refine pm_lload hC 4 dX10_partedBy_99 rfl ?_
            refine pm_lmul hC dX10_partedBy_101 ?_
            refine pm_someL hC (fun y700 b701 => ?_)
            have b701 := And.intro b701.1 b701.2
            refine pm_callSN (as := [(1, x595), (1, y700)]) (st := []) hC (c_X11_ofThousand x595 y700 ⟨by omega, by omega⟩ ⟨by omega, by omega⟩) lm_X10_141 ls_X11_ofThousand (by decide) (by decide) rfl rfl (Nat.le_of_ble_eq_true rfl) ⟨Nat.le_refl _, Or.inl rfl⟩ dX10_partedBy_102 ⟨rfl, hV592⟩ (fun r702 V703 hp704 => ?_)
            obtain ⟨y705, rfl, b706, rfl⟩ := hp704
            change pm_J X 105 [(0, (3, 73)), (1, (0, a1)), (2, (0, a2)), (3, (3, 77)), (4, (1, y586)), (6, (1, x595)), (8, (0, x597))] [(0, y705)] 118 V590
            exact pm_iret hC hR pm_nar0 ⟨y705, rfl, ⟨by omega, by omega⟩, hV592, hF594⟩ dX10_partedBy_105
          · skip
            refine pm_lload hC 5 dX10_partedBy_52 rfl ?_
            refine pm_aload_n hC 0 (by decide) dX10_partedBy_54 rfl ?_
            rcases hV592.get2 73 13 (lo := 76) (hi := 77) (by decide) (by decide) rfl with e707 | e707
            · skip
              refine pm_getf (v := 76) hC 73 fl_X10_50 rfl rfl (by decide) rfl e707 dX10_partedBy_55 ?_
              refine pm_iload hC 6 dX10_partedBy_58 rfl ?_
              obtain ⟨y708, e709⟩ : ∃ y, V590 76 (x597 : Int).toNat = y := ⟨_, rfl⟩
              have b710 := hV592.get 76 (x597 : Int).toNat (lo := (-9223372036854775808)) (hi := 9223372036854775807) (by decide) (show _ < 9 by omega) rfl
              rw [e709] at b710
              refine pm_laload (len := 9) (v := y708) hC 76 rfl rfl (by decide) ⟨by omega, by omega⟩ (by decide) e709 dX10_partedBy_60 ?_
              refine pm_lload hC 4 dX10_partedBy_61 rfl ?_
              refine pm_lmul hC dX10_partedBy_63 ?_
              refine pm_someL hC (fun y711 b712 => ?_)
              have b712 := And.intro b712.1 b712.2
              refine pm_aload_n hC 0 (by decide) dX10_partedBy_64 rfl ?_
              rcases hV592.get2 73 15 (lo := 76) (hi := 77) (by decide) (by decide) rfl with e713 | e713
              · skip
                refine pm_getf (v := 76) hC 73 fl_X10_56 rfl rfl (by decide) rfl e713 dX10_partedBy_65 ?_
                refine pm_iload hC 6 dX10_partedBy_68 rfl ?_
                refine pm_laload (len := 9) (v := y708) hC 76 rfl rfl (by decide) ⟨by omega, by omega⟩ (by decide) e709 dX10_partedBy_70 ?_
                refine pm_aload_n hC 0 (by decide) dX10_partedBy_71 rfl ?_
                obtain ⟨y714, e715⟩ : ∃ y, V590 73 14 = y := ⟨_, rfl⟩
                have b716 := hV592.get 73 14 (lo := (-9223372036854775808)) (hi := 9223372036854775807) (by decide) (by decide) rfl
                rw [e715] at b716
                refine pm_getf (v := y714) hC 73 fl_X10_53 rfl rfl (by decide) rfl e715 dX10_partedBy_72 ?_
                refine pm_lmul hC dX10_partedBy_75 ?_
                refine pm_someL hC (fun y717 b718 => ?_)
                have b718 := And.intro b718.1 b718.2
                refine pm_lsub hC dX10_partedBy_76 ?_
                refine pm_someL hC (fun y719 b720 => ?_)
                have b720 := And.intro b720.1 b720.2
                refine pm_mabsL hC 5035 5036 1018 5037 ⟨by omega, by omega⟩ (by decide) wL_X10_151 wS_mabsL wI_math wC_mabsL (Nat.le_of_ble_eq_true rfl) dX10_partedBy_77 (fun y721 b722 => ?_)
                have b722 := And.intro b722.1.1 (And.intro b722.1.2 b722.2)
                refine pm_ladd hC dX10_partedBy_80 ?_
                refine pm_someL hC (fun y723 b724 => ?_)
                have b724 := And.intro b724.1 b724.2
                refine pm_lstore (lv' := [(6, (1, y723)), (0, (3, 73)), (1, (0, a1)), (2, (0, a2)), (3, (3, 77)), (4, (1, y586)), (8, (0, x597))]) hC dX10_partedBy_81 (by decide) rfl ?_
                obtain ⟨x725, ei726⟩ : ∃ y : Int, x597 + 1 = y := ⟨_, rfl⟩
                refine pm_iinc (y := x725) (lv' := [(8, (0, x725)), (6, (1, y723)), (0, (3, 73)), (1, (0, a1)), (2, (0, a2)), (3, (3, 77)), (4, (1, y586))]) hC 6 dX10_partedBy_83 (by decide) rfl ei726 rfl ?_
                refine pm_goto (tgt := 40) hC dX10_partedBy_86 (by decide) ?_
                refine pm_lvsub [2, 3, 4, 5, 6, 1, 0] (lv' := [(0, (3, 73)), (1, (0, a1)), (2, (0, a2)), (3, (3, 77)), (4, (1, y586)), (6, (1, y723)), (8, (0, x725))]) rfl ?_
                exact ih602 _ (by omega) y723 x725 ⟨by omega, by omega⟩ ⟨by omega, by omega⟩ rfl
              · skip
                refine pm_getf (v := 77) hC 73 fl_X10_56 rfl rfl (by decide) rfl e713 dX10_partedBy_65 ?_
                refine pm_iload hC 6 dX10_partedBy_68 rfl ?_
                obtain ⟨y727, e728⟩ : ∃ y, V590 77 (x597 : Int).toNat = y := ⟨_, rfl⟩
                have b729 := hV592.get 77 (x597 : Int).toNat (lo := (-9223372036854775808)) (hi := 9223372036854775807) (by decide) (show _ < 9 by omega) rfl
                rw [e728] at b729
                refine pm_laload (len := 9) (v := y727) hC 77 rfl rfl (by decide) ⟨by omega, by omega⟩ (by decide) e728 dX10_partedBy_70 ?_
                refine pm_aload_n hC 0 (by decide) dX10_partedBy_71 rfl ?_
                obtain ⟨y730, e731⟩ : ∃ y, V590 73 14 = y := ⟨_, rfl⟩
                have b732 := hV592.get 73 14 (lo := (-9223372036854775808)) (hi := 9223372036854775807) (by decide) (by decide) rfl
                rw [e731] at b732
                refine pm_getf (v := y730) hC 73 fl_X10_53 rfl rfl (by decide) rfl e731 dX10_partedBy_72 ?_
                refine pm_lmul hC dX10_partedBy_75 ?_
                refine pm_someL hC (fun y733 b734 => ?_)
                have b734 := And.intro b734.1 b734.2
                refine pm_lsub hC dX10_partedBy_76 ?_
                refine pm_someL hC (fun y735 b736 => ?_)
                have b736 := And.intro b736.1 b736.2
                refine pm_mabsL hC 5035 5036 1018 5037 ⟨by omega, by omega⟩ (by decide) wL_X10_151 wS_mabsL wI_math wC_mabsL (Nat.le_of_ble_eq_true rfl) dX10_partedBy_77 (fun y737 b738 => ?_)
                have b738 := And.intro b738.1.1 (And.intro b738.1.2 b738.2)
                refine pm_ladd hC dX10_partedBy_80 ?_
                refine pm_someL hC (fun y739 b740 => ?_)
                have b740 := And.intro b740.1 b740.2
                refine pm_lstore (lv' := [(6, (1, y739)), (0, (3, 73)), (1, (0, a1)), (2, (0, a2)), (3, (3, 77)), (4, (1, y586)), (8, (0, x597))]) hC dX10_partedBy_81 (by decide) rfl ?_
                obtain ⟨x741, ei742⟩ : ∃ y : Int, x597 + 1 = y := ⟨_, rfl⟩
                refine pm_iinc (y := x741) (lv' := [(8, (0, x741)), (6, (1, y739)), (0, (3, 73)), (1, (0, a1)), (2, (0, a2)), (3, (3, 77)), (4, (1, y586))]) hC 6 dX10_partedBy_83 (by decide) rfl ei742 rfl ?_
                refine pm_goto (tgt := 40) hC dX10_partedBy_86 (by decide) ?_
                refine pm_lvsub [2, 3, 4, 5, 6, 1, 0] (lv' := [(0, (3, 73)), (1, (0, a1)), (2, (0, a2)), (3, (3, 77)), (4, (1, y586)), (6, (1, y739)), (8, (0, x741))]) rfl ?_
                exact ih602 _ (by omega) y739 x741 ⟨by omega, by omega⟩ ⟨by omega, by omega⟩ rfl
            · skip
              refine pm_getf (v := 77) hC 73 fl_X10_50 rfl rfl (by decide) rfl e707 dX10_partedBy_55 ?_
              refine pm_iload hC 6 dX10_partedBy_58 rfl ?_
              obtain ⟨y743, e744⟩ : ∃ y, V590 77 (x597 : Int).toNat = y := ⟨_, rfl⟩
              have b745 := hV592.get 77 (x597 : Int).toNat (lo := (-9223372036854775808)) (hi := 9223372036854775807) (by decide) (show _ < 9 by omega) rfl
              rw [e744] at b745
              refine pm_laload (len := 9) (v := y743) hC 77 rfl rfl (by decide) ⟨by omega, by omega⟩ (by decide) e744 dX10_partedBy_60 ?_
              refine pm_lload hC 4 dX10_partedBy_61 rfl ?_
              refine pm_lmul hC dX10_partedBy_63 ?_
              refine pm_someL hC (fun y746 b747 => ?_)
              have b747 := And.intro b747.1 b747.2
              refine pm_aload_n hC 0 (by decide) dX10_partedBy_64 rfl ?_
              rcases hV592.get2 73 15 (lo := 76) (hi := 77) (by decide) (by decide) rfl with e748 | e748
              · skip
                refine pm_getf (v := 76) hC 73 fl_X10_56 rfl rfl (by decide) rfl e748 dX10_partedBy_65 ?_
                refine pm_iload hC 6 dX10_partedBy_68 rfl ?_
                obtain ⟨y749, e750⟩ : ∃ y, V590 76 (x597 : Int).toNat = y := ⟨_, rfl⟩
                have b751 := hV592.get 76 (x597 : Int).toNat (lo := (-9223372036854775808)) (hi := 9223372036854775807) (by decide) (show _ < 9 by omega) rfl
                rw [e750] at b751
                refine pm_laload (len := 9) (v := y749) hC 76 rfl rfl (by decide) ⟨by omega, by omega⟩ (by decide) e750 dX10_partedBy_70 ?_
                refine pm_aload_n hC 0 (by decide) dX10_partedBy_71 rfl ?_
                obtain ⟨y752, e753⟩ : ∃ y, V590 73 14 = y := ⟨_, rfl⟩
                have b754 := hV592.get 73 14 (lo := (-9223372036854775808)) (hi := 9223372036854775807) (by decide) (by decide) rfl
                rw [e753] at b754
                refine pm_getf (v := y752) hC 73 fl_X10_53 rfl rfl (by decide) rfl e753 dX10_partedBy_72 ?_
                refine pm_lmul hC dX10_partedBy_75 ?_
                refine pm_someL hC (fun y755 b756 => ?_)
                have b756 := And.intro b756.1 b756.2
                refine pm_lsub hC dX10_partedBy_76 ?_
                refine pm_someL hC (fun y757 b758 => ?_)
                have b758 := And.intro b758.1 b758.2
                refine pm_mabsL hC 5035 5036 1018 5037 ⟨by omega, by omega⟩ (by decide) wL_X10_151 wS_mabsL wI_math wC_mabsL (Nat.le_of_ble_eq_true rfl) dX10_partedBy_77 (fun y759 b760 => ?_)
                have b760 := And.intro b760.1.1 (And.intro b760.1.2 b760.2)
                refine pm_ladd hC dX10_partedBy_80 ?_
                refine pm_someL hC (fun y761 b762 => ?_)
                have b762 := And.intro b762.1 b762.2
                refine pm_lstore (lv' := [(6, (1, y761)), (0, (3, 73)), (1, (0, a1)), (2, (0, a2)), (3, (3, 77)), (4, (1, y586)), (8, (0, x597))]) hC dX10_partedBy_81 (by decide) rfl ?_
                obtain ⟨x763, ei764⟩ : ∃ y : Int, x597 + 1 = y := ⟨_, rfl⟩
                refine pm_iinc (y := x763) (lv' := [(8, (0, x763)), (6, (1, y761)), (0, (3, 73)), (1, (0, a1)), (2, (0, a2)), (3, (3, 77)), (4, (1, y586))]) hC 6 dX10_partedBy_83 (by decide) rfl ei764 rfl ?_
                refine pm_goto (tgt := 40) hC dX10_partedBy_86 (by decide) ?_
                refine pm_lvsub [2, 3, 4, 5, 6, 1, 0] (lv' := [(0, (3, 73)), (1, (0, a1)), (2, (0, a2)), (3, (3, 77)), (4, (1, y586)), (6, (1, y761)), (8, (0, x763))]) rfl ?_
                exact ih602 _ (by omega) y761 x763 ⟨by omega, by omega⟩ ⟨by omega, by omega⟩ rfl
              · skip
                refine pm_getf (v := 77) hC 73 fl_X10_56 rfl rfl (by decide) rfl e748 dX10_partedBy_65 ?_
                refine pm_iload hC 6 dX10_partedBy_68 rfl ?_
                refine pm_laload (len := 9) (v := y743) hC 77 rfl rfl (by decide) ⟨by omega, by omega⟩ (by decide) e744 dX10_partedBy_70 ?_
                refine pm_aload_n hC 0 (by decide) dX10_partedBy_71 rfl ?_
                obtain ⟨y765, e766⟩ : ∃ y, V590 73 14 = y := ⟨_, rfl⟩
                have b767 := hV592.get 73 14 (lo := (-9223372036854775808)) (hi := 9223372036854775807) (by decide) (by decide) rfl
                rw [e766] at b767
                refine pm_getf (v := y765) hC 73 fl_X10_53 rfl rfl (by decide) rfl e766 dX10_partedBy_72 ?_
                refine pm_lmul hC dX10_partedBy_75 ?_
                refine pm_someL hC (fun y768 b769 => ?_)
                have b769 := And.intro b769.1 b769.2
                refine pm_lsub hC dX10_partedBy_76 ?_
                refine pm_someL hC (fun y770 b771 => ?_)
                have b771 := And.intro b771.1 b771.2
                refine pm_mabsL hC 5035 5036 1018 5037 ⟨by omega, by omega⟩ (by decide) wL_X10_151 wS_mabsL wI_math wC_mabsL (Nat.le_of_ble_eq_true rfl) dX10_partedBy_77 (fun y772 b773 => ?_)
                have b773 := And.intro b773.1.1 (And.intro b773.1.2 b773.2)
                refine pm_ladd hC dX10_partedBy_80 ?_
                refine pm_someL hC (fun y774 b775 => ?_)
                have b775 := And.intro b775.1 b775.2
                refine pm_lstore (lv' := [(6, (1, y774)), (0, (3, 73)), (1, (0, a1)), (2, (0, a2)), (3, (3, 77)), (4, (1, y586)), (8, (0, x597))]) hC dX10_partedBy_81 (by decide) rfl ?_
                obtain ⟨x776, ei777⟩ : ∃ y : Int, x597 + 1 = y := ⟨_, rfl⟩
                refine pm_iinc (y := x776) (lv' := [(8, (0, x776)), (6, (1, y774)), (0, (3, 73)), (1, (0, a1)), (2, (0, a2)), (3, (3, 77)), (4, (1, y586))]) hC 6 dX10_partedBy_83 (by decide) rfl ei777 rfl ?_
                refine pm_goto (tgt := 40) hC dX10_partedBy_86 (by decide) ?_
                refine pm_lvsub [2, 3, 4, 5, 6, 1, 0] (lv' := [(0, (3, 73)), (1, (0, a1)), (2, (0, a2)), (3, (3, 77)), (4, (1, y586)), (6, (1, y774)), (8, (0, x776))]) rfl ?_
                exact ih602 _ (by omega) y774 x776 ⟨by omega, by omega⟩ ⟨by omega, by omega⟩ rfl
      refine pm_lvsub [4, 5, 6, 3, 2, 1, 0] (lv' := [(0, (3, 73)), (1, (0, a1)), (2, (0, a2)), (3, (3, 77)), (4, (1, y586)), (6, (1, 0)), (8, (0, 0))]) rfl ?_
      exact L599 _ 0 0 ⟨by decide, by decide⟩ ⟨by decide, by decide⟩ rfl
set_option maxHeartbeats 4000000 in
set_option maxRecDepth 100000 in
theorem c_X11_parted_0 (a1 a2 a3 a4 : Int) (h0 : (-2147483648) ≤ a1 ∧ a1 ≤ 2147483647) (h1 : (-2147483648) ≤ a2 ∧ a2 ≤ 2147483647) (h2 : (-2147483648) ≤ a3 ∧ a3 ≤ 2147483647) (h3 : (-2147483648) ≤ a4 ∧ a4 ≤ 2147483647) : pm_K 6 yX11_parted cX11_parted 5 (some .int) (fun av V => av = [(3, 0), (0, a1), (0, a2), (0, a3), (0, a4)] ∧ pm_ok 0 90 V) (fun _ V r V' => ∃ y, r = some (0, y) ∧ ((-2147483648) ≤ y ∧ y ≤ 2147483647) ∧ pm_ok 0 90 V' ∧ pm_fr [73, 74, 75, 76, 77] V V') := by
  refine pm_MT.of (by decide) ⟨Nat.le_refl _, by decide⟩ (fun av V h => by rw [h.1]; exact (by decide : pm_words [(3, 0), (0, 0), (0, 0), (0, 0), (0, 0)] ≤ 5)) ?_
  rintro X av V0 hC - hR ⟨rfl, hV0⟩
  change pm_J X 0 [(0, (3, 0)), (1, (0, a1)), (2, (0, a2)), (3, (0, a3)), (4, (0, a4))] [] 118 V0
  refine pm_iload_n hC 1 dX11_parted_0 rfl ?_
  refine pm_callS (as := [(0, a1)]) (st := []) hC (c_X11_areLaws a1 ⟨by omega, by omega⟩) lm_X11_314 ls_X11_areLaws (by decide) (by decide) rfl rfl (Nat.le_of_ble_eq_true rfl) ⟨Nat.le_refl _, Or.inl rfl⟩ dX11_parted_1 ⟨rfl, hV0⟩ (fun r1 V2 hp3 => ?_)
  obtain ⟨y4, rfl, b5, rfl⟩ := hp3
  change pm_J X 4 [(0, (3, 0)), (1, (0, a1)), (2, (0, a2)), (3, (0, a3)), (4, (0, a4))] [(0, y4)] 118 V0
  refine pm_if_eq (tgt := 18) hC ⟨by omega, by omega⟩ dX11_parted_4 (by decide) (fun c6 => ?_) (fun c6 => ?_)
  · skip
    refine pm_iconst (v := (-1)) hC dX11_parted_18 ?_
    exact pm_iret hC hR pm_nar0 ⟨(-1), rfl, ⟨by omega, by omega⟩, hV0, (pm_fr.rf (ws := [73, 74, 75, 76, 77]) (V := V0))⟩ dX11_parted_19
  · skip
    refine pm_aload_n hC 0 (by decide) dX11_parted_7 rfl ?_
    refine pm_iload_n hC 2 dX11_parted_8 rfl ?_
    refine pm_iload_n hC 3 dX11_parted_9 rfl ?_
    refine pm_iload hC 4 dX11_parted_10 rfl ?_
    refine pm_callV (ci := 11) (as := [(0, a2), (0, a3), (0, a4)]) (st := []) hC 0 (c_X11_isTrial_0 a2 a3 a4 ⟨by omega, by omega⟩ ⟨by omega, by omega⟩ ⟨by omega, by omega⟩) lm_X11_225 li_X11_isTrial (by decide) (by decide) rfl rfl rfl (by decide) rfl rfl (Nat.le_of_ble_eq_true rfl) ⟨Nat.le_refl _, Or.inl rfl⟩ dX11_parted_12 ⟨rfl, hV0⟩ (fun r7 V8 hp9 => ?_)
    obtain ⟨y10, rfl, b11, rfl⟩ := hp9
    change pm_J X 15 [(0, (3, 0)), (1, (0, a1)), (2, (0, a2)), (3, (0, a3)), (4, (0, a4))] [(0, y10)] 118 V0
    refine pm_if_ne (tgt := 20) hC ⟨by omega, by omega⟩ dX11_parted_15 (by decide) (fun c12 => ?_) (fun c12 => ?_)
    · skip
      refine pm_aload_n hC 0 (by decide) dX11_parted_20 rfl ?_
      refine pm_iload_n hC 2 dX11_parted_21 rfl ?_
      refine pm_iload_n hC 3 dX11_parted_22 rfl ?_
      refine pm_iload hC 4 dX11_parted_23 rfl ?_
      refine pm_callV (ci := 11) (as := [(0, a2), (0, a3), (0, a4)]) (st := []) hC 0 (c_X11_pose_0 a2 a3 a4 ⟨by omega, by omega⟩ ⟨by omega, by omega⟩ ⟨by omega, by omega⟩ (by omega)) lm_X11_229 li_X11_pose (by decide) (by decide) rfl rfl rfl (by decide) rfl rfl (Nat.le_of_ble_eq_true rfl) ⟨Nat.le_refl _, Or.inl rfl⟩ dX11_parted_25 ⟨rfl, hV0⟩ (fun r13 V14 hp15 => ?_)
      obtain ⟨rfl, hV16, hF17⟩ := hp15
      change pm_J X 28 [(0, (3, 0)), (1, (0, a1)), (2, (0, a2)), (3, (0, a3)), (4, (0, a4))] [] 118 V14
      have hF18 := pm_fr.tr (pm_fr.rf (ws := [73, 74, 75, 76, 77]) (V := V0)) hF17 (by decide)
      refine pm_aload_n hC 0 (by decide) dX11_parted_28 rfl ?_
      have e19 : V14 0 5 = 73 := hV16.one 0 5 (by decide) (by decide) rfl
      refine pm_getf (v := 73) hC 0 fl_X11_75 rfl rfl (by decide) rfl e19 dX11_parted_29 ?_
      refine pm_iload_n hC 1 dX11_parted_32 rfl ?_
      refine pm_bipush (v := 10) hC dX11_parted_33 (by decide) ?_
      refine pm_idiv hC ⟨by omega, by omega, by omega⟩ ⟨by decide, by decide, by decide⟩ dX11_parted_35 ?_
      refine pm_iload_n hC 1 dX11_parted_36 rfl ?_
      refine pm_bipush (v := 10) hC dX11_parted_37 (by decide) ?_
      refine pm_irem hC ⟨by omega, by omega, by omega⟩ ⟨by decide, by decide, by decide⟩ dX11_parted_39 ?_
      refine pm_callV (ci := 10) (as := [(0, (a1 / 10)), (0, (a1 % 10))]) (st := []) hC 73 (c_X10_partedBy_73 (a1 / 10) (a1 % 10) ⟨by omega, by omega⟩ ⟨by omega, by omega⟩) lm_X11_317 li_X10_partedBy (by decide) (by decide) rfl rfl rfl (by decide) rfl rfl (Nat.le_of_ble_eq_true rfl) ⟨Nat.le_refl _, Or.inl rfl⟩ dX11_parted_40 ⟨rfl, hV16⟩ (fun r20 V21 hp22 => ?_)
      obtain ⟨y23, rfl, b24, hV25, hF26⟩ := hp22
      change pm_J X 43 [(0, (3, 0)), (1, (0, a1)), (2, (0, a2)), (3, (0, a3)), (4, (0, a4))] [(0, y23)] 118 V21
      have hF27 := pm_fr.tr hF18 hF26 (by decide)
      have e28 : V21 0 5 = 73 := by rw [hF26 0 (by decide)]; exact e19
      exact pm_iret hC hR pm_nar0 ⟨y23, rfl, ⟨by omega, by omega⟩, hV25, hF27⟩ dX11_parted_43
    · skip
      refine pm_iconst (v := (-1)) hC dX11_parted_18 ?_
      exact pm_iret hC hR pm_nar0 ⟨(-1), rfl, ⟨by omega, by omega⟩, hV0, (pm_fr.rf (ws := [73, 74, 75, 76, 77]) (V := V0))⟩ dX11_parted_19
set_option maxHeartbeats 4000000 in
set_option maxRecDepth 100000 in
theorem c_X11_next_0 (a1 a2 a3 a4 : Int) (h0 : (-2147483648) ≤ a1 ∧ a1 ≤ 2147483647) (h1 : (-2147483648) ≤ a2 ∧ a2 ≤ 2147483647) (h2 : (-2147483648) ≤ a3 ∧ a3 ≤ 2147483647) (h3 : (-2147483648) ≤ a4 ∧ a4 ≤ 2147483647) : pm_K 6 yX11_next cX11_next 12 (some .int) (fun av V => av = [(3, 0), (0, a1), (0, a2), (0, a3), (0, a4)] ∧ pm_ok 0 90 V) (fun _ V r V' => ∃ y, r = some (0, y) ∧ ((-1) ≤ y ∧ y ≤ 2147483647) ∧ pm_ok 0 90 V' ∧ pm_fr [73, 74, 75, 76, 77] V V') := by
  refine pm_MT.of (by decide) ⟨Nat.le_refl _, by decide⟩ (fun av V h => by rw [h.1]; exact (by decide : pm_words [(3, 0), (0, 0), (0, 0), (0, 0), (0, 0)] ≤ 12)) ?_
  rintro X av V0 hC - hR ⟨rfl, hV0⟩
  change pm_J X 0 [(0, (3, 0)), (1, (0, a1)), (2, (0, a2)), (3, (0, a3)), (4, (0, a4))] [] 118 V0
  refine pm_iload_n hC 1 dX11_next_0 rfl ?_
  refine pm_callS (as := [(0, a1)]) (st := []) hC (c_X11_areLaws a1 ⟨by omega, by omega⟩) lm_X11_314 ls_X11_areLaws (by decide) (by decide) rfl rfl (Nat.le_of_ble_eq_true rfl) ⟨Nat.le_refl _, Or.inl rfl⟩ dX11_next_1 ⟨rfl, hV0⟩ (fun r1 V2 hp3 => ?_)
  obtain ⟨y4, rfl, b5, rfl⟩ := hp3
  change pm_J X 4 [(0, (3, 0)), (1, (0, a1)), (2, (0, a2)), (3, (0, a3)), (4, (0, a4))] [(0, y4)] 118 V0
  refine pm_if_eq (tgt := 32) hC ⟨by omega, by omega⟩ dX11_next_4 (by decide) (fun c6 => ?_) (fun c6 => ?_)
  · skip
    refine pm_iconst (v := 0) hC dX11_next_32 ?_
    refine pm_istore (lv' := [(5, (0, 0)), (0, (3, 0)), (1, (0, a1)), (2, (0, a2)), (3, (0, a3)), (4, (0, a4))]) hC dX11_next_33 (by decide) rfl ?_
    refine pm_iload hC 0 dX11_next_35 rfl ?_
    refine pm_if_eq (tgt := 48) hC ⟨by decide, by decide⟩ dX11_next_37 (by decide) (fun c7 => ?_) (fun c7 => ?_)
    · skip
      refine pm_iconst (v := (-1)) hC dX11_next_48 ?_
      exact pm_iret hC hR pm_nar0 ⟨(-1), rfl, ⟨by omega, by omega⟩, hV0, (pm_fr.rf (ws := [73, 74, 75, 76, 77]) (V := V0))⟩ dX11_next_49
    · skip
      exfalso; omega
  · skip
    refine pm_iload_n hC 3 dX11_next_7 rfl ?_
    refine pm_if_lt (tgt := 32) hC ⟨by omega, by omega⟩ dX11_next_8 (by decide) (fun c8 => ?_) (fun c8 => ?_)
    · skip
      refine pm_iconst (v := 0) hC dX11_next_32 ?_
      refine pm_istore (lv' := [(5, (0, 0)), (0, (3, 0)), (1, (0, a1)), (2, (0, a2)), (3, (0, a3)), (4, (0, a4))]) hC dX11_next_33 (by decide) rfl ?_
      refine pm_iload hC 0 dX11_next_35 rfl ?_
      refine pm_if_eq (tgt := 48) hC ⟨by decide, by decide⟩ dX11_next_37 (by decide) (fun c9 => ?_) (fun c9 => ?_)
      · skip
        refine pm_iconst (v := (-1)) hC dX11_next_48 ?_
        exact pm_iret hC hR pm_nar0 ⟨(-1), rfl, ⟨by omega, by omega⟩, hV0, (pm_fr.rf (ws := [73, 74, 75, 76, 77]) (V := V0))⟩ dX11_next_49
      · skip
        exfalso; omega
    · skip
      refine pm_iload_n hC 3 dX11_next_11 rfl ?_
      refine pm_bipush (v := 10) hC dX11_next_12 (by decide) ?_
      refine pm_icmp_ge (tgt := 32) hC ⟨by omega, by omega⟩ ⟨by decide, by decide⟩ dX11_next_14 (by decide) (fun c10 => ?_) (fun c10 => ?_)
      · skip
        refine pm_iconst (v := 0) hC dX11_next_32 ?_
        refine pm_istore (lv' := [(5, (0, 0)), (0, (3, 0)), (1, (0, a1)), (2, (0, a2)), (3, (0, a3)), (4, (0, a4))]) hC dX11_next_33 (by decide) rfl ?_
        refine pm_iload hC 0 dX11_next_35 rfl ?_
        refine pm_if_eq (tgt := 48) hC ⟨by decide, by decide⟩ dX11_next_37 (by decide) (fun c11 => ?_) (fun c11 => ?_)
        · skip
          refine pm_iconst (v := (-1)) hC dX11_next_48 ?_
          exact pm_iret hC hR pm_nar0 ⟨(-1), rfl, ⟨by omega, by omega⟩, hV0, (pm_fr.rf (ws := [73, 74, 75, 76, 77]) (V := V0))⟩ dX11_next_49
        · skip
          exfalso; omega
      · skip
        refine pm_iload hC 4 dX11_next_17 rfl ?_
        refine pm_if_eq (tgt := 28) hC ⟨by omega, by omega⟩ dX11_next_19 (by decide) (fun c12 => ?_) (fun c12 => ?_)
        · skip
          refine pm_iconst (v := 1) hC dX11_next_28 ?_
          refine pm_goto (tgt := 33) hC dX11_next_29 (by decide) ?_
          refine pm_istore (lv' := [(5, (0, 1)), (0, (3, 0)), (1, (0, a1)), (2, (0, a2)), (3, (0, a3)), (4, (0, a4))]) hC dX11_next_33 (by decide) rfl ?_
          refine pm_iload hC 0 dX11_next_35 rfl ?_
          refine pm_if_eq (tgt := 48) hC ⟨by decide, by decide⟩ dX11_next_37 (by decide) (fun c13 => ?_) (fun c13 => ?_)
          · skip
            exfalso; omega
          · skip
            refine pm_aload_n hC 1 (by decide) dX11_next_40 rfl ?_
            refine pm_iload_n hC 3 dX11_next_41 rfl ?_
            refine pm_callV (ci := 11) (as := [(0, a2)]) (st := []) hC 0 (c_X11_isPerson_0 a2 ⟨by omega, by omega⟩) lm_X11_183 li_X11_isPerson (by decide) (by decide) rfl rfl rfl (by decide) rfl rfl (Nat.le_of_ble_eq_true rfl) ⟨Nat.le_refl _, Or.inl rfl⟩ dX11_next_42 ⟨rfl, hV0⟩ (fun r14 V15 hp16 => ?_)
            obtain ⟨y17, rfl, b18, rfl⟩ := hp16
            change pm_J X 45 [(5, (0, 1)), (0, (3, 0)), (1, (0, a1)), (2, (0, a2)), (3, (0, a3)), (4, (0, a4))] [(0, y17)] 118 V0
            refine pm_if_ne (tgt := 50) hC ⟨by omega, by omega⟩ dX11_next_45 (by decide) (fun c19 => ?_) (fun c19 => ?_)
            · skip
              refine pm_iconst (v := (-1)) hC dX11_next_50 ?_
              refine pm_istore (lv' := [(6, (0, (-1))), (5, (0, 1)), (0, (3, 0)), (1, (0, a1)), (2, (0, a2)), (3, (0, a3)), (4, (0, a4))]) hC dX11_next_51 (by decide) rfl ?_
              refine pm_iconst (v := (-1)) hC dX11_next_53 ?_
              refine pm_istore (lv' := [(7, (0, (-1))), (6, (0, (-1))), (5, (0, 1)), (0, (3, 0)), (1, (0, a1)), (2, (0, a2)), (3, (0, a3)), (4, (0, a4))]) hC dX11_next_54 (by decide) rfl ?_
              refine pm_iconst (v := 0) hC dX11_next_56 ?_
              refine pm_istore (lv' := [(8, (0, 0)), (7, (0, (-1))), (6, (0, (-1))), (5, (0, 1)), (0, (3, 0)), (1, (0, a1)), (2, (0, a2)), (3, (0, a3)), (4, (0, a4))]) hC dX11_next_57 (by decide) rfl ?_
              have L29 : ∀ (N31 : Nat) (x20 : Int) (x22 : Int) (x24 : Int) (V26 : pm_M), ((-1) ≤ x20 ∧ x20 ≤ 2147483647) → ((-1) ≤ x22 ∧ x22 ≤ 1000) → (0 ≤ x24 ∧ x24 ≤ 9) → pm_ok 0 90 V26 → pm_fr [73, 74, 75, 76, 77] V0 V26 → (Int.toNat (9 - x24)) = N31 → pm_J X 59 [(0, (3, 0)), (1, (0, a1)), (2, (0, a2)), (3, (0, a3)), (4, (0, a4)), (5, (0, 1)), (6, (0, x20)), (7, (0, x22)), (8, (0, x24))] [] 118 V26 := by
                intro N31
                induction N31 using Nat.strongRecOn with
                | _ N31 ih32 =>
                intro x20 x22 x24 V26 b21 b23 b25 hV27 hF28 hm30
                refine pm_iload hC 8 dX11_next_59 rfl ?_
                refine pm_aload_n hC 0 (by decide) dX11_next_61 rfl ?_
                rcases hV27.get2 0 8 (lo := 45) (hi := 51) (by decide) (by decide) rfl with e33 | e33
                · skip
                  refine pm_getf (v := 45) hC 0 fl_X11_35 rfl rfl (by decide) rfl e33 dX11_next_62 ?_
                  obtain ⟨y34, e35⟩ : ∃ y, V26 45 0 = y := ⟨_, rfl⟩
                  have b36 := hV27.get 45 0 (lo := 0) (hi := 9) (by decide) (by decide) rfl
                  rw [e35] at b36
                  refine pm_getf (v := y34) hC 45 fl_X11_136 rfl rfl (by decide) rfl e35 dX11_next_65 ?_
                  refine pm_icmp_ge (tgt := 183) hC ⟨by omega, by omega⟩ ⟨by omega, by omega⟩ dX11_next_68 (by decide) (fun c37 => ?_) (fun c37 => ?_)
                  · skip
                    refine pm_iload hC 4 dX11_next_183 rfl ?_
                    refine pm_if_ne (tgt := 193) hC ⟨by omega, by omega⟩ dX11_next_185 (by decide) (fun c38 => ?_) (fun c38 => ?_)
                    · skip
                      exfalso; omega
                    · skip
                      refine pm_iload hC 7 dX11_next_188 rfl ?_
                      refine pm_goto (tgt := 195) hC dX11_next_190 (by decide) ?_
                      exact pm_iret hC hR pm_nar0 ⟨x22, rfl, ⟨by omega, by omega⟩, hV27, hF28⟩ dX11_next_195
                  · skip
                    refine pm_iconst (v := 0) hC dX11_next_71 ?_
                    refine pm_istore (lv' := [(9, (0, 0)), (0, (3, 0)), (1, (0, a1)), (2, (0, a2)), (3, (0, a3)), (4, (0, a4)), (5, (0, 1)), (6, (0, x20)), (7, (0, x22)), (8, (0, x24))]) hC dX11_next_72 (by decide) rfl ?_
                    have L50 : ∀ (N52 : Nat) (x39 : Int) (x41 : Int) (x43 : Int) (V45 : pm_M), ((-1) ≤ x39 ∧ x39 ≤ 2147483647) → ((-1) ≤ x41 ∧ x41 ≤ 1000) → (0 ≤ x43 ∧ x43 ≤ 9) → pm_ok 0 90 V45 → pm_fr [73, 74, 75, 76, 77] V0 V45 → V45 0 8 = 45 → V45 45 0 = y34 → (Int.toNat (9 - x43)) = N52 → pm_J X 74 [(0, (3, 0)), (1, (0, a1)), (2, (0, a2)), (3, (0, a3)), (4, (0, a4)), (5, (0, 1)), (6, (0, x39)), (7, (0, x41)), (8, (0, x24)), (9, (0, x43))] [] 118 V45 := by
                      intro N52
                      induction N52 using Nat.strongRecOn with
                      | _ N52 ih53 =>
                      intro x39 x41 x43 V45 b40 b42 b44 hV46 hF47 e48 e49 hm51
                      refine pm_iload hC 9 dX11_next_74 rfl ?_
                      refine pm_aload_n hC 0 (by decide) dX11_next_76 rfl ?_
                      refine pm_getf (v := 45) hC 0 fl_X11_35 rfl rfl (by decide) rfl e48 dX11_next_77 ?_
                      refine pm_getf (v := y34) hC 45 fl_X11_136 rfl rfl (by decide) rfl e49 dX11_next_80 ?_
                      refine pm_icmp_ge (tgt := 177) hC ⟨by omega, by omega⟩ ⟨by omega, by omega⟩ dX11_next_83 (by decide) (fun c54 => ?_) (fun c54 => ?_)
                      · skip
                        obtain ⟨x55, ei56⟩ : ∃ y : Int, x24 + 1 = y := ⟨_, rfl⟩
                        refine pm_iinc (y := x55) (lv' := [(8, (0, x55)), (0, (3, 0)), (1, (0, a1)), (2, (0, a2)), (3, (0, a3)), (4, (0, a4)), (5, (0, 1)), (6, (0, x39)), (7, (0, x41)), (9, (0, x43))]) hC 8 dX11_next_177 (by decide) rfl ei56 rfl ?_
                        refine pm_goto (tgt := 59) hC dX11_next_180 (by decide) ?_
                        refine pm_lvsub [1, 2, 3, 4, 5, 6, 7, 8, 0] (lv' := [(0, (3, 0)), (1, (0, a1)), (2, (0, a2)), (3, (0, a3)), (4, (0, a4)), (5, (0, 1)), (6, (0, x39)), (7, (0, x41)), (8, (0, x55))]) rfl ?_
                        exact ih32 _ (by omega) x39 x41 x55 V45 ⟨by omega, by omega⟩ ⟨by omega, by omega⟩ ⟨by omega, by omega⟩ hV46 hF47 rfl
                      · skip
                        refine pm_iconst (v := 0) hC dX11_next_86 ?_
                        refine pm_istore (lv' := [(10, (0, 0)), (0, (3, 0)), (1, (0, a1)), (2, (0, a2)), (3, (0, a3)), (4, (0, a4)), (5, (0, 1)), (6, (0, x39)), (7, (0, x41)), (8, (0, x24)), (9, (0, x43))]) hC dX11_next_87 (by decide) rfl ?_
                        have L68 : ∀ (N70 : Nat) (x57 : Int) (x59 : Int) (x61 : Int) (V63 : pm_M), ((-1) ≤ x57 ∧ x57 ≤ 2147483647) → ((-1) ≤ x59 ∧ x59 ≤ 1000) → (0 ≤ x61 ∧ x61 ≤ 16) → pm_ok 0 90 V63 → pm_fr [73, 74, 75, 76, 77] V0 V63 → V63 0 8 = 45 → V63 45 0 = y34 → (Int.toNat (16 - x61)) = N70 → pm_J X 89 [(0, (3, 0)), (1, (0, a1)), (2, (0, a2)), (3, (0, a3)), (4, (0, a4)), (5, (0, 1)), (6, (0, x57)), (7, (0, x59)), (8, (0, x24)), (9, (0, x43)), (10, (0, x61))] [] 118 V63 := by
                          intro N70
                          induction N70 using Nat.strongRecOn with
                          | _ N70 ih71 =>
                          intro x57 x59 x61 V63 b58 b60 b62 hV64 hF65 e66 e67 hm69
                          refine pm_iload hC 10 dX11_next_89 rfl ?_
                          refine pm_bipush (v := 10) hC dX11_next_91 (by decide) ?_
                          refine pm_icmp_ge (tgt := 171) hC ⟨by omega, by omega⟩ ⟨by decide, by decide⟩ dX11_next_93 (by decide) (fun c72 => ?_) (fun c72 => ?_)
                          · skip
                            obtain ⟨x73, ei74⟩ : ∃ y : Int, x43 + 1 = y := ⟨_, rfl⟩
                            refine pm_iinc (y := x73) (lv' := [(9, (0, x73)), (0, (3, 0)), (1, (0, a1)), (2, (0, a2)), (3, (0, a3)), (4, (0, a4)), (5, (0, 1)), (6, (0, x57)), (7, (0, x59)), (8, (0, x24)), (10, (0, x61))]) hC 9 dX11_next_171 (by decide) rfl ei74 rfl ?_
                            refine pm_goto (tgt := 74) hC dX11_next_174 (by decide) ?_
                            refine pm_lvsub [1, 2, 3, 4, 5, 6, 7, 8, 9, 0] (lv' := [(0, (3, 0)), (1, (0, a1)), (2, (0, a2)), (3, (0, a3)), (4, (0, a4)), (5, (0, 1)), (6, (0, x57)), (7, (0, x59)), (8, (0, x24)), (9, (0, x73))]) rfl ?_
                            exact ih53 _ (by omega) x57 x59 x73 V63 ⟨by omega, by omega⟩ ⟨by omega, by omega⟩ ⟨by omega, by omega⟩ hV64 hF65 e66 e67 rfl
                          · skip
                            refine pm_aload_n hC 0 (by decide) dX11_next_96 rfl ?_
                            refine pm_iload_n hC 2 dX11_next_97 rfl ?_
                            refine pm_bipush (v := 100) hC dX11_next_98 (by decide) ?_
                            refine pm_imul hC dX11_next_100 ?_
                            refine pm_iload hC 8 dX11_next_101 rfl ?_
                            refine pm_bipush (v := 10) hC dX11_next_103 (by decide) ?_
                            refine pm_imul hC dX11_next_105 ?_
                            refine pm_iadd hC dX11_next_106 ?_
                            refine pm_iload hC 9 dX11_next_107 rfl ?_
                            refine pm_iadd hC dX11_next_109 ?_
                            refine pm_iload hC 10 dX11_next_110 rfl ?_
                            refine pm_bipush (v := 10) hC dX11_next_112 (by decide) ?_
                            refine pm_imul hC dX11_next_114 ?_
                            refine pm_iload_n hC 3 dX11_next_115 rfl ?_
                            refine pm_iadd hC dX11_next_116 ?_
                            refine pm_iconst (v := 0) hC dX11_next_117 ?_
                            refine pm_callV (ci := 11) (as := [(0, (((a2 * 100) + (x24 * 10)) + x43)), (0, ((x61 * 10) + a3)), (0, 0)]) (st := []) hC 0 (c_X11_pose_0 (((a2 * 100) + (x24 * 10)) + x43) ((x61 * 10) + a3) 0 ⟨by omega, by omega⟩ ⟨by omega, by omega⟩ ⟨by decide, by decide⟩ (by omega)) lm_X11_229 li_X11_pose (by decide) (by decide) rfl rfl rfl (by decide) rfl rfl (Nat.le_of_ble_eq_true rfl) ⟨Nat.le_refl _, Or.inl rfl⟩ dX11_next_118 ⟨rfl, hV64⟩ (fun r75 V76 hp77 => ?_)
                            obtain ⟨rfl, hV78, hF79⟩ := hp77
                            change pm_J X 121 [(0, (3, 0)), (1, (0, a1)), (2, (0, a2)), (3, (0, a3)), (4, (0, a4)), (5, (0, 1)), (6, (0, x57)), (7, (0, x59)), (8, (0, x24)), (9, (0, x43)), (10, (0, x61))] [] 118 V76
                            have hF80 := pm_fr.tr hF65 hF79 (by decide)
                            have e81 : V76 0 8 = 45 := by rw [hF79 0 (by decide)]; exact e66
                            have e82 : V76 45 0 = y34 := by rw [hF79 45 (by decide)]; exact e67
                            refine pm_aload_n hC 0 (by decide) dX11_next_121 rfl ?_
                            have e83 : V76 0 5 = 73 := hV78.one 0 5 (by decide) (by decide) rfl
                            refine pm_getf (v := 73) hC 0 fl_X11_75 rfl rfl (by decide) rfl e83 dX11_next_122 ?_
                            refine pm_iload_n hC 1 dX11_next_125 rfl ?_
                            refine pm_bipush (v := 10) hC dX11_next_126 (by decide) ?_
                            refine pm_idiv hC ⟨by omega, by omega, by omega⟩ ⟨by decide, by decide, by decide⟩ dX11_next_128 ?_
                            refine pm_iload_n hC 1 dX11_next_129 rfl ?_
                            refine pm_bipush (v := 10) hC dX11_next_130 (by decide) ?_
                            refine pm_irem hC ⟨by omega, by omega, by omega⟩ ⟨by decide, by decide, by decide⟩ dX11_next_132 ?_
                            refine pm_callV (ci := 10) (as := [(0, (a1 / 10)), (0, (a1 % 10))]) (st := []) hC 73 (c_X10_partedBy_73 (a1 / 10) (a1 % 10) ⟨by omega, by omega⟩ ⟨by omega, by omega⟩) lm_X11_317 li_X10_partedBy (by decide) (by decide) rfl rfl rfl (by decide) rfl rfl (Nat.le_of_ble_eq_true rfl) ⟨Nat.le_refl _, Or.inl rfl⟩ dX11_next_133 ⟨rfl, hV78⟩ (fun r84 V85 hp86 => ?_)
                            obtain ⟨y87, rfl, b88, hV89, hF90⟩ := hp86
                            change pm_J X 136 [(0, (3, 0)), (1, (0, a1)), (2, (0, a2)), (3, (0, a3)), (4, (0, a4)), (5, (0, 1)), (6, (0, x57)), (7, (0, x59)), (8, (0, x24)), (9, (0, x43)), (10, (0, x61))] [(0, y87)] 118 V85
                            have hF91 := pm_fr.tr hF80 hF90 (by decide)
                            have e92 : V85 0 8 = 45 := by rw [hF90 0 (by decide)]; exact e81
                            have e93 : V85 45 0 = y34 := by rw [hF90 45 (by decide)]; exact e82
                            have e94 : V85 0 5 = 73 := by rw [hF90 0 (by decide)]; exact e83
                            refine pm_istore (lv' := [(11, (0, y87)), (0, (3, 0)), (1, (0, a1)), (2, (0, a2)), (3, (0, a3)), (4, (0, a4)), (5, (0, 1)), (6, (0, x57)), (7, (0, x59)), (8, (0, x24)), (9, (0, x43)), (10, (0, x61))]) hC dX11_next_136 (by decide) rfl ?_
                            refine pm_iload hC 0 dX11_next_138 rfl ?_
                            refine pm_iload hC 7 dX11_next_140 rfl ?_
                            refine pm_icmp_le (tgt := 165) hC ⟨by omega, by omega⟩ ⟨by omega, by omega⟩ dX11_next_142 (by decide) (fun c95 => ?_) (fun c95 => ?_)
                            · skip
                              obtain ⟨x96, ei97⟩ : ∃ y : Int, x61 + 1 = y := ⟨_, rfl⟩
                              refine pm_iinc (y := x96) (lv' := [(10, (0, x96)), (11, (0, y87)), (0, (3, 0)), (1, (0, a1)), (2, (0, a2)), (3, (0, a3)), (4, (0, a4)), (5, (0, 1)), (6, (0, x57)), (7, (0, x59)), (8, (0, x24)), (9, (0, x43))]) hC 11 dX11_next_165 (by decide) rfl ei97 rfl ?_
                              refine pm_goto (tgt := 89) hC dX11_next_168 (by decide) ?_
                              refine pm_lvsub [2, 3, 4, 5, 6, 7, 8, 9, 10, 11, 0] (lv' := [(0, (3, 0)), (1, (0, a1)), (2, (0, a2)), (3, (0, a3)), (4, (0, a4)), (5, (0, 1)), (6, (0, x57)), (7, (0, x59)), (8, (0, x24)), (9, (0, x43)), (10, (0, x96))]) rfl ?_
                              exact ih71 _ (by omega) x57 x59 x96 V85 ⟨by omega, by omega⟩ ⟨by omega, by omega⟩ ⟨by omega, by omega⟩ hV89 hF91 e92 e93 rfl
                            · skip
                              refine pm_iload hC 0 dX11_next_145 rfl ?_
                              refine pm_istore (lv' := [(6, (0, y87)), (11, (0, y87)), (0, (3, 0)), (1, (0, a1)), (2, (0, a2)), (3, (0, a3)), (4, (0, a4)), (5, (0, 1)), (7, (0, x59)), (8, (0, x24)), (9, (0, x43)), (10, (0, x61))]) hC dX11_next_147 (by decide) rfl ?_
                              refine pm_iload hC 9 dX11_next_149 rfl ?_
                              refine pm_bipush (v := 100) hC dX11_next_151 (by decide) ?_
                              refine pm_imul hC dX11_next_153 ?_
                              refine pm_iload hC 10 dX11_next_154 rfl ?_
                              refine pm_bipush (v := 10) hC dX11_next_156 (by decide) ?_
                              refine pm_imul hC dX11_next_158 ?_
                              refine pm_iadd hC dX11_next_159 ?_
                              refine pm_iload hC 11 dX11_next_160 rfl ?_
                              refine pm_iadd hC dX11_next_162 ?_
                              refine pm_istore (lv' := [(7, (0, (((x24 * 100) + (x43 * 10)) + x61))), (6, (0, y87)), (11, (0, y87)), (0, (3, 0)), (1, (0, a1)), (2, (0, a2)), (3, (0, a3)), (4, (0, a4)), (5, (0, 1)), (8, (0, x24)), (9, (0, x43)), (10, (0, x61))]) hC dX11_next_163 (by decide) rfl ?_
                              obtain ⟨x98, ei99⟩ : ∃ y : Int, x61 + 1 = y := ⟨_, rfl⟩
                              refine pm_iinc (y := x98) (lv' := [(10, (0, x98)), (7, (0, (((x24 * 100) + (x43 * 10)) + x61))), (6, (0, y87)), (11, (0, y87)), (0, (3, 0)), (1, (0, a1)), (2, (0, a2)), (3, (0, a3)), (4, (0, a4)), (5, (0, 1)), (8, (0, x24)), (9, (0, x43))]) hC 11 dX11_next_165 (by decide) rfl ei99 rfl ?_
                              refine pm_goto (tgt := 89) hC dX11_next_168 (by decide) ?_
                              refine pm_lvsub [4, 5, 6, 7, 8, 9, 2, 1, 10, 11, 0] (lv' := [(0, (3, 0)), (1, (0, a1)), (2, (0, a2)), (3, (0, a3)), (4, (0, a4)), (5, (0, 1)), (6, (0, y87)), (7, (0, (((x24 * 100) + (x43 * 10)) + x61))), (8, (0, x24)), (9, (0, x43)), (10, (0, x98))]) rfl ?_
                              exact ih71 _ (by omega) y87 (((x24 * 100) + (x43 * 10)) + x61) x98 V85 ⟨by omega, by omega⟩ ⟨by omega, by omega⟩ ⟨by omega, by omega⟩ hV89 hF91 e92 e93 rfl
                        refine pm_lvsub [1, 2, 3, 4, 5, 6, 7, 8, 9, 10, 0] (lv' := [(0, (3, 0)), (1, (0, a1)), (2, (0, a2)), (3, (0, a3)), (4, (0, a4)), (5, (0, 1)), (6, (0, x39)), (7, (0, x41)), (8, (0, x24)), (9, (0, x43)), (10, (0, 0))]) rfl ?_
                        exact L68 _ x39 x41 0 V45 ⟨by omega, by omega⟩ ⟨by omega, by omega⟩ ⟨by decide, by decide⟩ hV46 hF47 e48 e49 rfl
                    refine pm_lvsub [1, 2, 3, 4, 5, 6, 7, 8, 9, 0] (lv' := [(0, (3, 0)), (1, (0, a1)), (2, (0, a2)), (3, (0, a3)), (4, (0, a4)), (5, (0, 1)), (6, (0, x20)), (7, (0, x22)), (8, (0, x24)), (9, (0, 0))]) rfl ?_
                    exact L50 _ x20 x22 0 V26 ⟨by omega, by omega⟩ ⟨by omega, by omega⟩ ⟨by decide, by decide⟩ hV27 hF28 e33 e35 rfl
                · skip
                  refine pm_getf (v := 51) hC 0 fl_X11_35 rfl rfl (by decide) rfl e33 dX11_next_62 ?_
                  obtain ⟨y100, e101⟩ : ∃ y, V26 51 0 = y := ⟨_, rfl⟩
                  have b102 := hV27.get 51 0 (lo := 0) (hi := 9) (by decide) (by decide) rfl
                  rw [e101] at b102
                  refine pm_getf (v := y100) hC 51 fl_X11_136 rfl rfl (by decide) rfl e101 dX11_next_65 ?_
                  refine pm_icmp_ge (tgt := 183) hC ⟨by omega, by omega⟩ ⟨by omega, by omega⟩ dX11_next_68 (by decide) (fun c103 => ?_) (fun c103 => ?_)
                  · skip
                    refine pm_iload hC 4 dX11_next_183 rfl ?_
                    refine pm_if_ne (tgt := 193) hC ⟨by omega, by omega⟩ dX11_next_185 (by decide) (fun c104 => ?_) (fun c104 => ?_)
                    · skip
                      exfalso; omega
                    · skip
                      refine pm_iload hC 7 dX11_next_188 rfl ?_
                      refine pm_goto (tgt := 195) hC dX11_next_190 (by decide) ?_
                      exact pm_iret hC hR pm_nar0 ⟨x22, rfl, ⟨by omega, by omega⟩, hV27, hF28⟩ dX11_next_195
                  · skip
                    refine pm_iconst (v := 0) hC dX11_next_71 ?_
                    refine pm_istore (lv' := [(9, (0, 0)), (0, (3, 0)), (1, (0, a1)), (2, (0, a2)), (3, (0, a3)), (4, (0, a4)), (5, (0, 1)), (6, (0, x20)), (7, (0, x22)), (8, (0, x24))]) hC dX11_next_72 (by decide) rfl ?_
                    have L116 : ∀ (N118 : Nat) (x105 : Int) (x107 : Int) (x109 : Int) (V111 : pm_M), ((-1) ≤ x105 ∧ x105 ≤ 2147483647) → ((-1) ≤ x107 ∧ x107 ≤ 1000) → (0 ≤ x109 ∧ x109 ≤ 9) → pm_ok 0 90 V111 → pm_fr [73, 74, 75, 76, 77] V0 V111 → V111 0 8 = 51 → V111 51 0 = y100 → (Int.toNat (9 - x109)) = N118 → pm_J X 74 [(0, (3, 0)), (1, (0, a1)), (2, (0, a2)), (3, (0, a3)), (4, (0, a4)), (5, (0, 1)), (6, (0, x105)), (7, (0, x107)), (8, (0, x24)), (9, (0, x109))] [] 118 V111 := by
                      intro N118
                      induction N118 using Nat.strongRecOn with
                      | _ N118 ih119 =>
                      intro x105 x107 x109 V111 b106 b108 b110 hV112 hF113 e114 e115 hm117
                      refine pm_iload hC 9 dX11_next_74 rfl ?_
                      refine pm_aload_n hC 0 (by decide) dX11_next_76 rfl ?_
                      refine pm_getf (v := 51) hC 0 fl_X11_35 rfl rfl (by decide) rfl e114 dX11_next_77 ?_
                      refine pm_getf (v := y100) hC 51 fl_X11_136 rfl rfl (by decide) rfl e115 dX11_next_80 ?_
                      refine pm_icmp_ge (tgt := 177) hC ⟨by omega, by omega⟩ ⟨by omega, by omega⟩ dX11_next_83 (by decide) (fun c120 => ?_) (fun c120 => ?_)
                      · skip
                        obtain ⟨x121, ei122⟩ : ∃ y : Int, x24 + 1 = y := ⟨_, rfl⟩
                        refine pm_iinc (y := x121) (lv' := [(8, (0, x121)), (0, (3, 0)), (1, (0, a1)), (2, (0, a2)), (3, (0, a3)), (4, (0, a4)), (5, (0, 1)), (6, (0, x105)), (7, (0, x107)), (9, (0, x109))]) hC 8 dX11_next_177 (by decide) rfl ei122 rfl ?_
                        refine pm_goto (tgt := 59) hC dX11_next_180 (by decide) ?_
                        refine pm_lvsub [1, 2, 3, 4, 5, 6, 7, 8, 0] (lv' := [(0, (3, 0)), (1, (0, a1)), (2, (0, a2)), (3, (0, a3)), (4, (0, a4)), (5, (0, 1)), (6, (0, x105)), (7, (0, x107)), (8, (0, x121))]) rfl ?_
                        exact ih32 _ (by omega) x105 x107 x121 V111 ⟨by omega, by omega⟩ ⟨by omega, by omega⟩ ⟨by omega, by omega⟩ hV112 hF113 rfl
                      · skip
                        refine pm_iconst (v := 0) hC dX11_next_86 ?_
                        refine pm_istore (lv' := [(10, (0, 0)), (0, (3, 0)), (1, (0, a1)), (2, (0, a2)), (3, (0, a3)), (4, (0, a4)), (5, (0, 1)), (6, (0, x105)), (7, (0, x107)), (8, (0, x24)), (9, (0, x109))]) hC dX11_next_87 (by decide) rfl ?_
                        have L134 : ∀ (N136 : Nat) (x123 : Int) (x125 : Int) (x127 : Int) (V129 : pm_M), ((-1) ≤ x123 ∧ x123 ≤ 2147483647) → ((-1) ≤ x125 ∧ x125 ≤ 1000) → (0 ≤ x127 ∧ x127 ≤ 16) → pm_ok 0 90 V129 → pm_fr [73, 74, 75, 76, 77] V0 V129 → V129 0 8 = 51 → V129 51 0 = y100 → (Int.toNat (16 - x127)) = N136 → pm_J X 89 [(0, (3, 0)), (1, (0, a1)), (2, (0, a2)), (3, (0, a3)), (4, (0, a4)), (5, (0, 1)), (6, (0, x123)), (7, (0, x125)), (8, (0, x24)), (9, (0, x109)), (10, (0, x127))] [] 118 V129 := by
                          intro N136
                          induction N136 using Nat.strongRecOn with
                          | _ N136 ih137 =>
                          intro x123 x125 x127 V129 b124 b126 b128 hV130 hF131 e132 e133 hm135
                          refine pm_iload hC 10 dX11_next_89 rfl ?_
                          refine pm_bipush (v := 10) hC dX11_next_91 (by decide) ?_
                          refine pm_icmp_ge (tgt := 171) hC ⟨by omega, by omega⟩ ⟨by decide, by decide⟩ dX11_next_93 (by decide) (fun c138 => ?_) (fun c138 => ?_)
                          · skip
                            obtain ⟨x139, ei140⟩ : ∃ y : Int, x109 + 1 = y := ⟨_, rfl⟩
                            refine pm_iinc (y := x139) (lv' := [(9, (0, x139)), (0, (3, 0)), (1, (0, a1)), (2, (0, a2)), (3, (0, a3)), (4, (0, a4)), (5, (0, 1)), (6, (0, x123)), (7, (0, x125)), (8, (0, x24)), (10, (0, x127))]) hC 9 dX11_next_171 (by decide) rfl ei140 rfl ?_
                            refine pm_goto (tgt := 74) hC dX11_next_174 (by decide) ?_
                            refine pm_lvsub [1, 2, 3, 4, 5, 6, 7, 8, 9, 0] (lv' := [(0, (3, 0)), (1, (0, a1)), (2, (0, a2)), (3, (0, a3)), (4, (0, a4)), (5, (0, 1)), (6, (0, x123)), (7, (0, x125)), (8, (0, x24)), (9, (0, x139))]) rfl ?_
                            exact ih119 _ (by omega) x123 x125 x139 V129 ⟨by omega, by omega⟩ ⟨by omega, by omega⟩ ⟨by omega, by omega⟩ hV130 hF131 e132 e133 rfl
                          · skip
                            refine pm_aload_n hC 0 (by decide) dX11_next_96 rfl ?_
                            refine pm_iload_n hC 2 dX11_next_97 rfl ?_
                            refine pm_bipush (v := 100) hC dX11_next_98 (by decide) ?_
                            refine pm_imul hC dX11_next_100 ?_
                            refine pm_iload hC 8 dX11_next_101 rfl ?_
                            refine pm_bipush (v := 10) hC dX11_next_103 (by decide) ?_
                            refine pm_imul hC dX11_next_105 ?_
                            refine pm_iadd hC dX11_next_106 ?_
                            refine pm_iload hC 9 dX11_next_107 rfl ?_
                            refine pm_iadd hC dX11_next_109 ?_
                            refine pm_iload hC 10 dX11_next_110 rfl ?_
                            refine pm_bipush (v := 10) hC dX11_next_112 (by decide) ?_
                            refine pm_imul hC dX11_next_114 ?_
                            refine pm_iload_n hC 3 dX11_next_115 rfl ?_
                            refine pm_iadd hC dX11_next_116 ?_
                            refine pm_iconst (v := 0) hC dX11_next_117 ?_
                            refine pm_callV (ci := 11) (as := [(0, (((a2 * 100) + (x24 * 10)) + x109)), (0, ((x127 * 10) + a3)), (0, 0)]) (st := []) hC 0 (c_X11_pose_0 (((a2 * 100) + (x24 * 10)) + x109) ((x127 * 10) + a3) 0 ⟨by omega, by omega⟩ ⟨by omega, by omega⟩ ⟨by decide, by decide⟩ (by omega)) lm_X11_229 li_X11_pose (by decide) (by decide) rfl rfl rfl (by decide) rfl rfl (Nat.le_of_ble_eq_true rfl) ⟨Nat.le_refl _, Or.inl rfl⟩ dX11_next_118 ⟨rfl, hV130⟩ (fun r141 V142 hp143 => ?_)
                            obtain ⟨rfl, hV144, hF145⟩ := hp143
                            change pm_J X 121 [(0, (3, 0)), (1, (0, a1)), (2, (0, a2)), (3, (0, a3)), (4, (0, a4)), (5, (0, 1)), (6, (0, x123)), (7, (0, x125)), (8, (0, x24)), (9, (0, x109)), (10, (0, x127))] [] 118 V142
                            have hF146 := pm_fr.tr hF131 hF145 (by decide)
                            have e147 : V142 0 8 = 51 := by rw [hF145 0 (by decide)]; exact e132
                            have e148 : V142 51 0 = y100 := by rw [hF145 51 (by decide)]; exact e133
                            refine pm_aload_n hC 0 (by decide) dX11_next_121 rfl ?_
                            have e149 : V142 0 5 = 73 := hV144.one 0 5 (by decide) (by decide) rfl
                            refine pm_getf (v := 73) hC 0 fl_X11_75 rfl rfl (by decide) rfl e149 dX11_next_122 ?_
                            refine pm_iload_n hC 1 dX11_next_125 rfl ?_
                            refine pm_bipush (v := 10) hC dX11_next_126 (by decide) ?_
                            refine pm_idiv hC ⟨by omega, by omega, by omega⟩ ⟨by decide, by decide, by decide⟩ dX11_next_128 ?_
                            refine pm_iload_n hC 1 dX11_next_129 rfl ?_
                            refine pm_bipush (v := 10) hC dX11_next_130 (by decide) ?_
                            refine pm_irem hC ⟨by omega, by omega, by omega⟩ ⟨by decide, by decide, by decide⟩ dX11_next_132 ?_
                            refine pm_callV (ci := 10) (as := [(0, (a1 / 10)), (0, (a1 % 10))]) (st := []) hC 73 (c_X10_partedBy_73 (a1 / 10) (a1 % 10) ⟨by omega, by omega⟩ ⟨by omega, by omega⟩) lm_X11_317 li_X10_partedBy (by decide) (by decide) rfl rfl rfl (by decide) rfl rfl (Nat.le_of_ble_eq_true rfl) ⟨Nat.le_refl _, Or.inl rfl⟩ dX11_next_133 ⟨rfl, hV144⟩ (fun r150 V151 hp152 => ?_)
                            obtain ⟨y153, rfl, b154, hV155, hF156⟩ := hp152
                            change pm_J X 136 [(0, (3, 0)), (1, (0, a1)), (2, (0, a2)), (3, (0, a3)), (4, (0, a4)), (5, (0, 1)), (6, (0, x123)), (7, (0, x125)), (8, (0, x24)), (9, (0, x109)), (10, (0, x127))] [(0, y153)] 118 V151
                            have hF157 := pm_fr.tr hF146 hF156 (by decide)
                            have e158 : V151 0 8 = 51 := by rw [hF156 0 (by decide)]; exact e147
                            have e159 : V151 51 0 = y100 := by rw [hF156 51 (by decide)]; exact e148
                            have e160 : V151 0 5 = 73 := by rw [hF156 0 (by decide)]; exact e149
                            refine pm_istore (lv' := [(11, (0, y153)), (0, (3, 0)), (1, (0, a1)), (2, (0, a2)), (3, (0, a3)), (4, (0, a4)), (5, (0, 1)), (6, (0, x123)), (7, (0, x125)), (8, (0, x24)), (9, (0, x109)), (10, (0, x127))]) hC dX11_next_136 (by decide) rfl ?_
                            refine pm_iload hC 0 dX11_next_138 rfl ?_
                            refine pm_iload hC 7 dX11_next_140 rfl ?_
                            refine pm_icmp_le (tgt := 165) hC ⟨by omega, by omega⟩ ⟨by omega, by omega⟩ dX11_next_142 (by decide) (fun c161 => ?_) (fun c161 => ?_)
                            · skip
                              obtain ⟨x162, ei163⟩ : ∃ y : Int, x127 + 1 = y := ⟨_, rfl⟩
                              refine pm_iinc (y := x162) (lv' := [(10, (0, x162)), (11, (0, y153)), (0, (3, 0)), (1, (0, a1)), (2, (0, a2)), (3, (0, a3)), (4, (0, a4)), (5, (0, 1)), (6, (0, x123)), (7, (0, x125)), (8, (0, x24)), (9, (0, x109))]) hC 11 dX11_next_165 (by decide) rfl ei163 rfl ?_
                              refine pm_goto (tgt := 89) hC dX11_next_168 (by decide) ?_
                              refine pm_lvsub [2, 3, 4, 5, 6, 7, 8, 9, 10, 11, 0] (lv' := [(0, (3, 0)), (1, (0, a1)), (2, (0, a2)), (3, (0, a3)), (4, (0, a4)), (5, (0, 1)), (6, (0, x123)), (7, (0, x125)), (8, (0, x24)), (9, (0, x109)), (10, (0, x162))]) rfl ?_
                              exact ih137 _ (by omega) x123 x125 x162 V151 ⟨by omega, by omega⟩ ⟨by omega, by omega⟩ ⟨by omega, by omega⟩ hV155 hF157 e158 e159 rfl
                            · skip
                              refine pm_iload hC 0 dX11_next_145 rfl ?_
                              refine pm_istore (lv' := [(6, (0, y153)), (11, (0, y153)), (0, (3, 0)), (1, (0, a1)), (2, (0, a2)), (3, (0, a3)), (4, (0, a4)), (5, (0, 1)), (7, (0, x125)), (8, (0, x24)), (9, (0, x109)), (10, (0, x127))]) hC dX11_next_147 (by decide) rfl ?_
                              refine pm_iload hC 9 dX11_next_149 rfl ?_
                              refine pm_bipush (v := 100) hC dX11_next_151 (by decide) ?_
                              refine pm_imul hC dX11_next_153 ?_
                              refine pm_iload hC 10 dX11_next_154 rfl ?_
                              refine pm_bipush (v := 10) hC dX11_next_156 (by decide) ?_
                              refine pm_imul hC dX11_next_158 ?_
                              refine pm_iadd hC dX11_next_159 ?_
                              refine pm_iload hC 11 dX11_next_160 rfl ?_
                              refine pm_iadd hC dX11_next_162 ?_
                              refine pm_istore (lv' := [(7, (0, (((x24 * 100) + (x109 * 10)) + x127))), (6, (0, y153)), (11, (0, y153)), (0, (3, 0)), (1, (0, a1)), (2, (0, a2)), (3, (0, a3)), (4, (0, a4)), (5, (0, 1)), (8, (0, x24)), (9, (0, x109)), (10, (0, x127))]) hC dX11_next_163 (by decide) rfl ?_
                              obtain ⟨x164, ei165⟩ : ∃ y : Int, x127 + 1 = y := ⟨_, rfl⟩
                              refine pm_iinc (y := x164) (lv' := [(10, (0, x164)), (7, (0, (((x24 * 100) + (x109 * 10)) + x127))), (6, (0, y153)), (11, (0, y153)), (0, (3, 0)), (1, (0, a1)), (2, (0, a2)), (3, (0, a3)), (4, (0, a4)), (5, (0, 1)), (8, (0, x24)), (9, (0, x109))]) hC 11 dX11_next_165 (by decide) rfl ei165 rfl ?_
                              refine pm_goto (tgt := 89) hC dX11_next_168 (by decide) ?_
                              refine pm_lvsub [4, 5, 6, 7, 8, 9, 2, 1, 10, 11, 0] (lv' := [(0, (3, 0)), (1, (0, a1)), (2, (0, a2)), (3, (0, a3)), (4, (0, a4)), (5, (0, 1)), (6, (0, y153)), (7, (0, (((x24 * 100) + (x109 * 10)) + x127))), (8, (0, x24)), (9, (0, x109)), (10, (0, x164))]) rfl ?_
                              exact ih137 _ (by omega) y153 (((x24 * 100) + (x109 * 10)) + x127) x164 V151 ⟨by omega, by omega⟩ ⟨by omega, by omega⟩ ⟨by omega, by omega⟩ hV155 hF157 e158 e159 rfl
                        refine pm_lvsub [1, 2, 3, 4, 5, 6, 7, 8, 9, 10, 0] (lv' := [(0, (3, 0)), (1, (0, a1)), (2, (0, a2)), (3, (0, a3)), (4, (0, a4)), (5, (0, 1)), (6, (0, x105)), (7, (0, x107)), (8, (0, x24)), (9, (0, x109)), (10, (0, 0))]) rfl ?_
                        exact L134 _ x105 x107 0 V111 ⟨by omega, by omega⟩ ⟨by omega, by omega⟩ ⟨by decide, by decide⟩ hV112 hF113 e114 e115 rfl
                    refine pm_lvsub [1, 2, 3, 4, 5, 6, 7, 8, 9, 0] (lv' := [(0, (3, 0)), (1, (0, a1)), (2, (0, a2)), (3, (0, a3)), (4, (0, a4)), (5, (0, 1)), (6, (0, x20)), (7, (0, x22)), (8, (0, x24)), (9, (0, 0))]) rfl ?_
                    exact L116 _ x20 x22 0 V26 ⟨by omega, by omega⟩ ⟨by omega, by omega⟩ ⟨by decide, by decide⟩ hV27 hF28 e33 e101 rfl
              refine pm_lvsub [4, 5, 6, 7, 8, 3, 2, 1, 0] (lv' := [(0, (3, 0)), (1, (0, a1)), (2, (0, a2)), (3, (0, a3)), (4, (0, a4)), (5, (0, 1)), (6, (0, (-1))), (7, (0, (-1))), (8, (0, 0))]) rfl ?_
              exact L29 _ (-1) (-1) 0 V0 ⟨by decide, by decide⟩ ⟨by decide, by decide⟩ ⟨by decide, by decide⟩ hV0 (pm_fr.rf (ws := [73, 74, 75, 76, 77]) (V := V0)) rfl
            · skip
              refine pm_iconst (v := (-1)) hC dX11_next_48 ?_
              exact pm_iret hC hR pm_nar0 ⟨(-1), rfl, ⟨by omega, by omega⟩, hV0, (pm_fr.rf (ws := [73, 74, 75, 76, 77]) (V := V0))⟩ dX11_next_49
        · skip
          refine pm_iload hC 4 dX11_next_22 rfl ?_
          refine pm_iconst (v := 1) hC dX11_next_24 ?_
          refine pm_icmp_ne (tgt := 32) hC ⟨by omega, by omega⟩ ⟨by decide, by decide⟩ dX11_next_25 (by decide) (fun c166 => ?_) (fun c166 => ?_)
          · skip
            refine pm_iconst (v := 0) hC dX11_next_32 ?_
            refine pm_istore (lv' := [(5, (0, 0)), (0, (3, 0)), (1, (0, a1)), (2, (0, a2)), (3, (0, a3)), (4, (0, a4))]) hC dX11_next_33 (by decide) rfl ?_
            refine pm_iload hC 0 dX11_next_35 rfl ?_
            refine pm_if_eq (tgt := 48) hC ⟨by decide, by decide⟩ dX11_next_37 (by decide) (fun c167 => ?_) (fun c167 => ?_)
            · skip
              refine pm_iconst (v := (-1)) hC dX11_next_48 ?_
              exact pm_iret hC hR pm_nar0 ⟨(-1), rfl, ⟨by omega, by omega⟩, hV0, (pm_fr.rf (ws := [73, 74, 75, 76, 77]) (V := V0))⟩ dX11_next_49
            · skip
              exfalso; omega
          · skip
            refine pm_iconst (v := 1) hC dX11_next_28 ?_
            refine pm_goto (tgt := 33) hC dX11_next_29 (by decide) ?_
            refine pm_istore (lv' := [(5, (0, 1)), (0, (3, 0)), (1, (0, a1)), (2, (0, a2)), (3, (0, a3)), (4, (0, a4))]) hC dX11_next_33 (by decide) rfl ?_
            refine pm_iload hC 0 dX11_next_35 rfl ?_
            refine pm_if_eq (tgt := 48) hC ⟨by decide, by decide⟩ dX11_next_37 (by decide) (fun c168 => ?_) (fun c168 => ?_)
            · skip
              exfalso; omega
            · skip
              refine pm_aload_n hC 1 (by decide) dX11_next_40 rfl ?_
              refine pm_iload_n hC 3 dX11_next_41 rfl ?_
              refine pm_callV (ci := 11) (as := [(0, a2)]) (st := []) hC 0 (c_X11_isPerson_0 a2 ⟨by omega, by omega⟩) lm_X11_183 li_X11_isPerson (by decide) (by decide) rfl rfl rfl (by decide) rfl rfl (Nat.le_of_ble_eq_true rfl) ⟨Nat.le_refl _, Or.inl rfl⟩ dX11_next_42 ⟨rfl, hV0⟩ (fun r169 V170 hp171 => ?_)
              obtain ⟨y172, rfl, b173, rfl⟩ := hp171
              change pm_J X 45 [(5, (0, 1)), (0, (3, 0)), (1, (0, a1)), (2, (0, a2)), (3, (0, a3)), (4, (0, a4))] [(0, y172)] 118 V0
              refine pm_if_ne (tgt := 50) hC ⟨by omega, by omega⟩ dX11_next_45 (by decide) (fun c174 => ?_) (fun c174 => ?_)
              · skip
                refine pm_iconst (v := (-1)) hC dX11_next_50 ?_
                refine pm_istore (lv' := [(6, (0, (-1))), (5, (0, 1)), (0, (3, 0)), (1, (0, a1)), (2, (0, a2)), (3, (0, a3)), (4, (0, a4))]) hC dX11_next_51 (by decide) rfl ?_
                refine pm_iconst (v := (-1)) hC dX11_next_53 ?_
                refine pm_istore (lv' := [(7, (0, (-1))), (6, (0, (-1))), (5, (0, 1)), (0, (3, 0)), (1, (0, a1)), (2, (0, a2)), (3, (0, a3)), (4, (0, a4))]) hC dX11_next_54 (by decide) rfl ?_
                refine pm_iconst (v := 0) hC dX11_next_56 ?_
                refine pm_istore (lv' := [(8, (0, 0)), (7, (0, (-1))), (6, (0, (-1))), (5, (0, 1)), (0, (3, 0)), (1, (0, a1)), (2, (0, a2)), (3, (0, a3)), (4, (0, a4))]) hC dX11_next_57 (by decide) rfl ?_
                have L184 : ∀ (N186 : Nat) (x175 : Int) (x177 : Int) (x179 : Int) (V181 : pm_M), ((-1) ≤ x175 ∧ x175 ≤ 2147483647) → ((-1) ≤ x177 ∧ x177 ≤ 1000) → (0 ≤ x179 ∧ x179 ≤ 9) → pm_ok 0 90 V181 → pm_fr [73, 74, 75, 76, 77] V0 V181 → (Int.toNat (9 - x179)) = N186 → pm_J X 59 [(0, (3, 0)), (1, (0, a1)), (2, (0, a2)), (3, (0, a3)), (4, (0, a4)), (5, (0, 1)), (6, (0, x175)), (7, (0, x177)), (8, (0, x179))] [] 118 V181 := by
                  intro N186
                  induction N186 using Nat.strongRecOn with
                  | _ N186 ih187 =>
                  intro x175 x177 x179 V181 b176 b178 b180 hV182 hF183 hm185
                  refine pm_iload hC 8 dX11_next_59 rfl ?_
                  refine pm_aload_n hC 0 (by decide) dX11_next_61 rfl ?_
                  rcases hV182.get2 0 8 (lo := 45) (hi := 51) (by decide) (by decide) rfl with e188 | e188
                  · skip
                    refine pm_getf (v := 45) hC 0 fl_X11_35 rfl rfl (by decide) rfl e188 dX11_next_62 ?_
                    obtain ⟨y189, e190⟩ : ∃ y, V181 45 0 = y := ⟨_, rfl⟩
                    have b191 := hV182.get 45 0 (lo := 0) (hi := 9) (by decide) (by decide) rfl
                    rw [e190] at b191
                    refine pm_getf (v := y189) hC 45 fl_X11_136 rfl rfl (by decide) rfl e190 dX11_next_65 ?_
                    refine pm_icmp_ge (tgt := 183) hC ⟨by omega, by omega⟩ ⟨by omega, by omega⟩ dX11_next_68 (by decide) (fun c192 => ?_) (fun c192 => ?_)
                    · skip
                      refine pm_iload hC 4 dX11_next_183 rfl ?_
                      refine pm_if_ne (tgt := 193) hC ⟨by omega, by omega⟩ dX11_next_185 (by decide) (fun c193 => ?_) (fun c193 => ?_)
                      · skip
                        refine pm_iload hC 6 dX11_next_193 rfl ?_
                        exact pm_iret hC hR pm_nar0 ⟨x175, rfl, ⟨by omega, by omega⟩, hV182, hF183⟩ dX11_next_195
                      · skip
                        exfalso; omega
                    · skip
                      refine pm_iconst (v := 0) hC dX11_next_71 ?_
                      refine pm_istore (lv' := [(9, (0, 0)), (0, (3, 0)), (1, (0, a1)), (2, (0, a2)), (3, (0, a3)), (4, (0, a4)), (5, (0, 1)), (6, (0, x175)), (7, (0, x177)), (8, (0, x179))]) hC dX11_next_72 (by decide) rfl ?_
                      have L205 : ∀ (N207 : Nat) (x194 : Int) (x196 : Int) (x198 : Int) (V200 : pm_M), ((-1) ≤ x194 ∧ x194 ≤ 2147483647) → ((-1) ≤ x196 ∧ x196 ≤ 1000) → (0 ≤ x198 ∧ x198 ≤ 9) → pm_ok 0 90 V200 → pm_fr [73, 74, 75, 76, 77] V0 V200 → V200 0 8 = 45 → V200 45 0 = y189 → (Int.toNat (9 - x198)) = N207 → pm_J X 74 [(0, (3, 0)), (1, (0, a1)), (2, (0, a2)), (3, (0, a3)), (4, (0, a4)), (5, (0, 1)), (6, (0, x194)), (7, (0, x196)), (8, (0, x179)), (9, (0, x198))] [] 118 V200 := by
                        intro N207
                        induction N207 using Nat.strongRecOn with
                        | _ N207 ih208 =>
                        intro x194 x196 x198 V200 b195 b197 b199 hV201 hF202 e203 e204 hm206
                        refine pm_iload hC 9 dX11_next_74 rfl ?_
                        refine pm_aload_n hC 0 (by decide) dX11_next_76 rfl ?_
                        refine pm_getf (v := 45) hC 0 fl_X11_35 rfl rfl (by decide) rfl e203 dX11_next_77 ?_
                        refine pm_getf (v := y189) hC 45 fl_X11_136 rfl rfl (by decide) rfl e204 dX11_next_80 ?_
                        refine pm_icmp_ge (tgt := 177) hC ⟨by omega, by omega⟩ ⟨by omega, by omega⟩ dX11_next_83 (by decide) (fun c209 => ?_) (fun c209 => ?_)
                        · skip
                          obtain ⟨x210, ei211⟩ : ∃ y : Int, x179 + 1 = y := ⟨_, rfl⟩
                          refine pm_iinc (y := x210) (lv' := [(8, (0, x210)), (0, (3, 0)), (1, (0, a1)), (2, (0, a2)), (3, (0, a3)), (4, (0, a4)), (5, (0, 1)), (6, (0, x194)), (7, (0, x196)), (9, (0, x198))]) hC 8 dX11_next_177 (by decide) rfl ei211 rfl ?_
                          refine pm_goto (tgt := 59) hC dX11_next_180 (by decide) ?_
                          refine pm_lvsub [1, 2, 3, 4, 5, 6, 7, 8, 0] (lv' := [(0, (3, 0)), (1, (0, a1)), (2, (0, a2)), (3, (0, a3)), (4, (0, a4)), (5, (0, 1)), (6, (0, x194)), (7, (0, x196)), (8, (0, x210))]) rfl ?_
                          exact ih187 _ (by omega) x194 x196 x210 V200 ⟨by omega, by omega⟩ ⟨by omega, by omega⟩ ⟨by omega, by omega⟩ hV201 hF202 rfl
                        · skip
                          refine pm_iconst (v := 0) hC dX11_next_86 ?_
                          refine pm_istore (lv' := [(10, (0, 0)), (0, (3, 0)), (1, (0, a1)), (2, (0, a2)), (3, (0, a3)), (4, (0, a4)), (5, (0, 1)), (6, (0, x194)), (7, (0, x196)), (8, (0, x179)), (9, (0, x198))]) hC dX11_next_87 (by decide) rfl ?_
                          have L223 : ∀ (N225 : Nat) (x212 : Int) (x214 : Int) (x216 : Int) (V218 : pm_M), ((-1) ≤ x212 ∧ x212 ≤ 2147483647) → ((-1) ≤ x214 ∧ x214 ≤ 1000) → (0 ≤ x216 ∧ x216 ≤ 16) → pm_ok 0 90 V218 → pm_fr [73, 74, 75, 76, 77] V0 V218 → V218 0 8 = 45 → V218 45 0 = y189 → (Int.toNat (16 - x216)) = N225 → pm_J X 89 [(0, (3, 0)), (1, (0, a1)), (2, (0, a2)), (3, (0, a3)), (4, (0, a4)), (5, (0, 1)), (6, (0, x212)), (7, (0, x214)), (8, (0, x179)), (9, (0, x198)), (10, (0, x216))] [] 118 V218 := by
                            intro N225
                            induction N225 using Nat.strongRecOn with
                            | _ N225 ih226 =>
                            intro x212 x214 x216 V218 b213 b215 b217 hV219 hF220 e221 e222 hm224
                            refine pm_iload hC 10 dX11_next_89 rfl ?_
                            refine pm_bipush (v := 10) hC dX11_next_91 (by decide) ?_
                            refine pm_icmp_ge (tgt := 171) hC ⟨by omega, by omega⟩ ⟨by decide, by decide⟩ dX11_next_93 (by decide) (fun c227 => ?_) (fun c227 => ?_)
                            · skip
                              obtain ⟨x228, ei229⟩ : ∃ y : Int, x198 + 1 = y := ⟨_, rfl⟩
                              refine pm_iinc (y := x228) (lv' := [(9, (0, x228)), (0, (3, 0)), (1, (0, a1)), (2, (0, a2)), (3, (0, a3)), (4, (0, a4)), (5, (0, 1)), (6, (0, x212)), (7, (0, x214)), (8, (0, x179)), (10, (0, x216))]) hC 9 dX11_next_171 (by decide) rfl ei229 rfl ?_
                              refine pm_goto (tgt := 74) hC dX11_next_174 (by decide) ?_
                              refine pm_lvsub [1, 2, 3, 4, 5, 6, 7, 8, 9, 0] (lv' := [(0, (3, 0)), (1, (0, a1)), (2, (0, a2)), (3, (0, a3)), (4, (0, a4)), (5, (0, 1)), (6, (0, x212)), (7, (0, x214)), (8, (0, x179)), (9, (0, x228))]) rfl ?_
                              exact ih208 _ (by omega) x212 x214 x228 V218 ⟨by omega, by omega⟩ ⟨by omega, by omega⟩ ⟨by omega, by omega⟩ hV219 hF220 e221 e222 rfl
                            · skip
                              refine pm_aload_n hC 0 (by decide) dX11_next_96 rfl ?_
                              refine pm_iload_n hC 2 dX11_next_97 rfl ?_
                              refine pm_bipush (v := 100) hC dX11_next_98 (by decide) ?_
                              refine pm_imul hC dX11_next_100 ?_
                              refine pm_iload hC 8 dX11_next_101 rfl ?_
                              refine pm_bipush (v := 10) hC dX11_next_103 (by decide) ?_
                              refine pm_imul hC dX11_next_105 ?_
                              refine pm_iadd hC dX11_next_106 ?_
                              refine pm_iload hC 9 dX11_next_107 rfl ?_
                              refine pm_iadd hC dX11_next_109 ?_
                              refine pm_iload hC 10 dX11_next_110 rfl ?_
                              refine pm_bipush (v := 10) hC dX11_next_112 (by decide) ?_
                              refine pm_imul hC dX11_next_114 ?_
                              refine pm_iload_n hC 3 dX11_next_115 rfl ?_
                              refine pm_iadd hC dX11_next_116 ?_
                              refine pm_iconst (v := 0) hC dX11_next_117 ?_
                              refine pm_callV (ci := 11) (as := [(0, (((a2 * 100) + (x179 * 10)) + x198)), (0, ((x216 * 10) + a3)), (0, 0)]) (st := []) hC 0 (c_X11_pose_0 (((a2 * 100) + (x179 * 10)) + x198) ((x216 * 10) + a3) 0 ⟨by omega, by omega⟩ ⟨by omega, by omega⟩ ⟨by decide, by decide⟩ (by omega)) lm_X11_229 li_X11_pose (by decide) (by decide) rfl rfl rfl (by decide) rfl rfl (Nat.le_of_ble_eq_true rfl) ⟨Nat.le_refl _, Or.inl rfl⟩ dX11_next_118 ⟨rfl, hV219⟩ (fun r230 V231 hp232 => ?_)
                              obtain ⟨rfl, hV233, hF234⟩ := hp232
                              change pm_J X 121 [(0, (3, 0)), (1, (0, a1)), (2, (0, a2)), (3, (0, a3)), (4, (0, a4)), (5, (0, 1)), (6, (0, x212)), (7, (0, x214)), (8, (0, x179)), (9, (0, x198)), (10, (0, x216))] [] 118 V231
                              have hF235 := pm_fr.tr hF220 hF234 (by decide)
                              have e236 : V231 0 8 = 45 := by rw [hF234 0 (by decide)]; exact e221
                              have e237 : V231 45 0 = y189 := by rw [hF234 45 (by decide)]; exact e222
                              refine pm_aload_n hC 0 (by decide) dX11_next_121 rfl ?_
                              have e238 : V231 0 5 = 73 := hV233.one 0 5 (by decide) (by decide) rfl
                              refine pm_getf (v := 73) hC 0 fl_X11_75 rfl rfl (by decide) rfl e238 dX11_next_122 ?_
                              refine pm_iload_n hC 1 dX11_next_125 rfl ?_
                              refine pm_bipush (v := 10) hC dX11_next_126 (by decide) ?_
                              refine pm_idiv hC ⟨by omega, by omega, by omega⟩ ⟨by decide, by decide, by decide⟩ dX11_next_128 ?_
                              refine pm_iload_n hC 1 dX11_next_129 rfl ?_
                              refine pm_bipush (v := 10) hC dX11_next_130 (by decide) ?_
                              refine pm_irem hC ⟨by omega, by omega, by omega⟩ ⟨by decide, by decide, by decide⟩ dX11_next_132 ?_
                              refine pm_callV (ci := 10) (as := [(0, (a1 / 10)), (0, (a1 % 10))]) (st := []) hC 73 (c_X10_partedBy_73 (a1 / 10) (a1 % 10) ⟨by omega, by omega⟩ ⟨by omega, by omega⟩) lm_X11_317 li_X10_partedBy (by decide) (by decide) rfl rfl rfl (by decide) rfl rfl (Nat.le_of_ble_eq_true rfl) ⟨Nat.le_refl _, Or.inl rfl⟩ dX11_next_133 ⟨rfl, hV233⟩ (fun r239 V240 hp241 => ?_)
                              obtain ⟨y242, rfl, b243, hV244, hF245⟩ := hp241
                              change pm_J X 136 [(0, (3, 0)), (1, (0, a1)), (2, (0, a2)), (3, (0, a3)), (4, (0, a4)), (5, (0, 1)), (6, (0, x212)), (7, (0, x214)), (8, (0, x179)), (9, (0, x198)), (10, (0, x216))] [(0, y242)] 118 V240
                              have hF246 := pm_fr.tr hF235 hF245 (by decide)
                              have e247 : V240 0 8 = 45 := by rw [hF245 0 (by decide)]; exact e236
                              have e248 : V240 45 0 = y189 := by rw [hF245 45 (by decide)]; exact e237
                              have e249 : V240 0 5 = 73 := by rw [hF245 0 (by decide)]; exact e238
                              refine pm_istore (lv' := [(11, (0, y242)), (0, (3, 0)), (1, (0, a1)), (2, (0, a2)), (3, (0, a3)), (4, (0, a4)), (5, (0, 1)), (6, (0, x212)), (7, (0, x214)), (8, (0, x179)), (9, (0, x198)), (10, (0, x216))]) hC dX11_next_136 (by decide) rfl ?_
                              refine pm_iload hC 0 dX11_next_138 rfl ?_
                              refine pm_iload hC 7 dX11_next_140 rfl ?_
                              refine pm_icmp_le (tgt := 165) hC ⟨by omega, by omega⟩ ⟨by omega, by omega⟩ dX11_next_142 (by decide) (fun c250 => ?_) (fun c250 => ?_)
                              · skip
                                obtain ⟨x251, ei252⟩ : ∃ y : Int, x216 + 1 = y := ⟨_, rfl⟩
                                refine pm_iinc (y := x251) (lv' := [(10, (0, x251)), (11, (0, y242)), (0, (3, 0)), (1, (0, a1)), (2, (0, a2)), (3, (0, a3)), (4, (0, a4)), (5, (0, 1)), (6, (0, x212)), (7, (0, x214)), (8, (0, x179)), (9, (0, x198))]) hC 11 dX11_next_165 (by decide) rfl ei252 rfl ?_
                                refine pm_goto (tgt := 89) hC dX11_next_168 (by decide) ?_
                                refine pm_lvsub [2, 3, 4, 5, 6, 7, 8, 9, 10, 11, 0] (lv' := [(0, (3, 0)), (1, (0, a1)), (2, (0, a2)), (3, (0, a3)), (4, (0, a4)), (5, (0, 1)), (6, (0, x212)), (7, (0, x214)), (8, (0, x179)), (9, (0, x198)), (10, (0, x251))]) rfl ?_
                                exact ih226 _ (by omega) x212 x214 x251 V240 ⟨by omega, by omega⟩ ⟨by omega, by omega⟩ ⟨by omega, by omega⟩ hV244 hF246 e247 e248 rfl
                              · skip
                                refine pm_iload hC 0 dX11_next_145 rfl ?_
                                refine pm_istore (lv' := [(6, (0, y242)), (11, (0, y242)), (0, (3, 0)), (1, (0, a1)), (2, (0, a2)), (3, (0, a3)), (4, (0, a4)), (5, (0, 1)), (7, (0, x214)), (8, (0, x179)), (9, (0, x198)), (10, (0, x216))]) hC dX11_next_147 (by decide) rfl ?_
                                refine pm_iload hC 9 dX11_next_149 rfl ?_
                                refine pm_bipush (v := 100) hC dX11_next_151 (by decide) ?_
                                refine pm_imul hC dX11_next_153 ?_
                                refine pm_iload hC 10 dX11_next_154 rfl ?_
                                refine pm_bipush (v := 10) hC dX11_next_156 (by decide) ?_
                                refine pm_imul hC dX11_next_158 ?_
                                refine pm_iadd hC dX11_next_159 ?_
                                refine pm_iload hC 11 dX11_next_160 rfl ?_
                                refine pm_iadd hC dX11_next_162 ?_
                                refine pm_istore (lv' := [(7, (0, (((x179 * 100) + (x198 * 10)) + x216))), (6, (0, y242)), (11, (0, y242)), (0, (3, 0)), (1, (0, a1)), (2, (0, a2)), (3, (0, a3)), (4, (0, a4)), (5, (0, 1)), (8, (0, x179)), (9, (0, x198)), (10, (0, x216))]) hC dX11_next_163 (by decide) rfl ?_
                                obtain ⟨x253, ei254⟩ : ∃ y : Int, x216 + 1 = y := ⟨_, rfl⟩
                                refine pm_iinc (y := x253) (lv' := [(10, (0, x253)), (7, (0, (((x179 * 100) + (x198 * 10)) + x216))), (6, (0, y242)), (11, (0, y242)), (0, (3, 0)), (1, (0, a1)), (2, (0, a2)), (3, (0, a3)), (4, (0, a4)), (5, (0, 1)), (8, (0, x179)), (9, (0, x198))]) hC 11 dX11_next_165 (by decide) rfl ei254 rfl ?_
                                refine pm_goto (tgt := 89) hC dX11_next_168 (by decide) ?_
                                refine pm_lvsub [4, 5, 6, 7, 8, 9, 2, 1, 10, 11, 0] (lv' := [(0, (3, 0)), (1, (0, a1)), (2, (0, a2)), (3, (0, a3)), (4, (0, a4)), (5, (0, 1)), (6, (0, y242)), (7, (0, (((x179 * 100) + (x198 * 10)) + x216))), (8, (0, x179)), (9, (0, x198)), (10, (0, x253))]) rfl ?_
                                exact ih226 _ (by omega) y242 (((x179 * 100) + (x198 * 10)) + x216) x253 V240 ⟨by omega, by omega⟩ ⟨by omega, by omega⟩ ⟨by omega, by omega⟩ hV244 hF246 e247 e248 rfl
                          refine pm_lvsub [1, 2, 3, 4, 5, 6, 7, 8, 9, 10, 0] (lv' := [(0, (3, 0)), (1, (0, a1)), (2, (0, a2)), (3, (0, a3)), (4, (0, a4)), (5, (0, 1)), (6, (0, x194)), (7, (0, x196)), (8, (0, x179)), (9, (0, x198)), (10, (0, 0))]) rfl ?_
                          exact L223 _ x194 x196 0 V200 ⟨by omega, by omega⟩ ⟨by omega, by omega⟩ ⟨by decide, by decide⟩ hV201 hF202 e203 e204 rfl
                      refine pm_lvsub [1, 2, 3, 4, 5, 6, 7, 8, 9, 0] (lv' := [(0, (3, 0)), (1, (0, a1)), (2, (0, a2)), (3, (0, a3)), (4, (0, a4)), (5, (0, 1)), (6, (0, x175)), (7, (0, x177)), (8, (0, x179)), (9, (0, 0))]) rfl ?_
                      exact L205 _ x175 x177 0 V181 ⟨by omega, by omega⟩ ⟨by omega, by omega⟩ ⟨by decide, by decide⟩ hV182 hF183 e188 e190 rfl
                  · skip
                    refine pm_getf (v := 51) hC 0 fl_X11_35 rfl rfl (by decide) rfl e188 dX11_next_62 ?_
                    obtain ⟨y255, e256⟩ : ∃ y, V181 51 0 = y := ⟨_, rfl⟩
                    have b257 := hV182.get 51 0 (lo := 0) (hi := 9) (by decide) (by decide) rfl
                    rw [e256] at b257
                    refine pm_getf (v := y255) hC 51 fl_X11_136 rfl rfl (by decide) rfl e256 dX11_next_65 ?_
                    refine pm_icmp_ge (tgt := 183) hC ⟨by omega, by omega⟩ ⟨by omega, by omega⟩ dX11_next_68 (by decide) (fun c258 => ?_) (fun c258 => ?_)
                    · skip
                      refine pm_iload hC 4 dX11_next_183 rfl ?_
                      refine pm_if_ne (tgt := 193) hC ⟨by omega, by omega⟩ dX11_next_185 (by decide) (fun c259 => ?_) (fun c259 => ?_)
                      · skip
                        refine pm_iload hC 6 dX11_next_193 rfl ?_
                        exact pm_iret hC hR pm_nar0 ⟨x175, rfl, ⟨by omega, by omega⟩, hV182, hF183⟩ dX11_next_195
                      · skip
                        exfalso; omega
                    · skip
                      refine pm_iconst (v := 0) hC dX11_next_71 ?_
                      refine pm_istore (lv' := [(9, (0, 0)), (0, (3, 0)), (1, (0, a1)), (2, (0, a2)), (3, (0, a3)), (4, (0, a4)), (5, (0, 1)), (6, (0, x175)), (7, (0, x177)), (8, (0, x179))]) hC dX11_next_72 (by decide) rfl ?_
                      have L271 : ∀ (N273 : Nat) (x260 : Int) (x262 : Int) (x264 : Int) (V266 : pm_M), ((-1) ≤ x260 ∧ x260 ≤ 2147483647) → ((-1) ≤ x262 ∧ x262 ≤ 1000) → (0 ≤ x264 ∧ x264 ≤ 9) → pm_ok 0 90 V266 → pm_fr [73, 74, 75, 76, 77] V0 V266 → V266 0 8 = 51 → V266 51 0 = y255 → (Int.toNat (9 - x264)) = N273 → pm_J X 74 [(0, (3, 0)), (1, (0, a1)), (2, (0, a2)), (3, (0, a3)), (4, (0, a4)), (5, (0, 1)), (6, (0, x260)), (7, (0, x262)), (8, (0, x179)), (9, (0, x264))] [] 118 V266 := by
                        intro N273
                        induction N273 using Nat.strongRecOn with
                        | _ N273 ih274 =>
                        intro x260 x262 x264 V266 b261 b263 b265 hV267 hF268 e269 e270 hm272
                        refine pm_iload hC 9 dX11_next_74 rfl ?_
                        refine pm_aload_n hC 0 (by decide) dX11_next_76 rfl ?_
                        refine pm_getf (v := 51) hC 0 fl_X11_35 rfl rfl (by decide) rfl e269 dX11_next_77 ?_
                        refine pm_getf (v := y255) hC 51 fl_X11_136 rfl rfl (by decide) rfl e270 dX11_next_80 ?_
                        refine pm_icmp_ge (tgt := 177) hC ⟨by omega, by omega⟩ ⟨by omega, by omega⟩ dX11_next_83 (by decide) (fun c275 => ?_) (fun c275 => ?_)
                        · skip
                          obtain ⟨x276, ei277⟩ : ∃ y : Int, x179 + 1 = y := ⟨_, rfl⟩
                          refine pm_iinc (y := x276) (lv' := [(8, (0, x276)), (0, (3, 0)), (1, (0, a1)), (2, (0, a2)), (3, (0, a3)), (4, (0, a4)), (5, (0, 1)), (6, (0, x260)), (7, (0, x262)), (9, (0, x264))]) hC 8 dX11_next_177 (by decide) rfl ei277 rfl ?_
                          refine pm_goto (tgt := 59) hC dX11_next_180 (by decide) ?_
                          refine pm_lvsub [1, 2, 3, 4, 5, 6, 7, 8, 0] (lv' := [(0, (3, 0)), (1, (0, a1)), (2, (0, a2)), (3, (0, a3)), (4, (0, a4)), (5, (0, 1)), (6, (0, x260)), (7, (0, x262)), (8, (0, x276))]) rfl ?_
                          exact ih187 _ (by omega) x260 x262 x276 V266 ⟨by omega, by omega⟩ ⟨by omega, by omega⟩ ⟨by omega, by omega⟩ hV267 hF268 rfl
                        · skip
                          refine pm_iconst (v := 0) hC dX11_next_86 ?_
                          refine pm_istore (lv' := [(10, (0, 0)), (0, (3, 0)), (1, (0, a1)), (2, (0, a2)), (3, (0, a3)), (4, (0, a4)), (5, (0, 1)), (6, (0, x260)), (7, (0, x262)), (8, (0, x179)), (9, (0, x264))]) hC dX11_next_87 (by decide) rfl ?_
                          have L289 : ∀ (N291 : Nat) (x278 : Int) (x280 : Int) (x282 : Int) (V284 : pm_M), ((-1) ≤ x278 ∧ x278 ≤ 2147483647) → ((-1) ≤ x280 ∧ x280 ≤ 1000) → (0 ≤ x282 ∧ x282 ≤ 16) → pm_ok 0 90 V284 → pm_fr [73, 74, 75, 76, 77] V0 V284 → V284 0 8 = 51 → V284 51 0 = y255 → (Int.toNat (16 - x282)) = N291 → pm_J X 89 [(0, (3, 0)), (1, (0, a1)), (2, (0, a2)), (3, (0, a3)), (4, (0, a4)), (5, (0, 1)), (6, (0, x278)), (7, (0, x280)), (8, (0, x179)), (9, (0, x264)), (10, (0, x282))] [] 118 V284 := by
                            intro N291
                            induction N291 using Nat.strongRecOn with
                            | _ N291 ih292 =>
                            intro x278 x280 x282 V284 b279 b281 b283 hV285 hF286 e287 e288 hm290
                            refine pm_iload hC 10 dX11_next_89 rfl ?_
                            refine pm_bipush (v := 10) hC dX11_next_91 (by decide) ?_
                            refine pm_icmp_ge (tgt := 171) hC ⟨by omega, by omega⟩ ⟨by decide, by decide⟩ dX11_next_93 (by decide) (fun c293 => ?_) (fun c293 => ?_)
                            · skip
                              obtain ⟨x294, ei295⟩ : ∃ y : Int, x264 + 1 = y := ⟨_, rfl⟩
                              refine pm_iinc (y := x294) (lv' := [(9, (0, x294)), (0, (3, 0)), (1, (0, a1)), (2, (0, a2)), (3, (0, a3)), (4, (0, a4)), (5, (0, 1)), (6, (0, x278)), (7, (0, x280)), (8, (0, x179)), (10, (0, x282))]) hC 9 dX11_next_171 (by decide) rfl ei295 rfl ?_
                              refine pm_goto (tgt := 74) hC dX11_next_174 (by decide) ?_
                              refine pm_lvsub [1, 2, 3, 4, 5, 6, 7, 8, 9, 0] (lv' := [(0, (3, 0)), (1, (0, a1)), (2, (0, a2)), (3, (0, a3)), (4, (0, a4)), (5, (0, 1)), (6, (0, x278)), (7, (0, x280)), (8, (0, x179)), (9, (0, x294))]) rfl ?_
                              exact ih274 _ (by omega) x278 x280 x294 V284 ⟨by omega, by omega⟩ ⟨by omega, by omega⟩ ⟨by omega, by omega⟩ hV285 hF286 e287 e288 rfl
                            · skip
                              refine pm_aload_n hC 0 (by decide) dX11_next_96 rfl ?_
                              refine pm_iload_n hC 2 dX11_next_97 rfl ?_
                              refine pm_bipush (v := 100) hC dX11_next_98 (by decide) ?_
                              refine pm_imul hC dX11_next_100 ?_
                              refine pm_iload hC 8 dX11_next_101 rfl ?_
                              refine pm_bipush (v := 10) hC dX11_next_103 (by decide) ?_
                              refine pm_imul hC dX11_next_105 ?_
                              refine pm_iadd hC dX11_next_106 ?_
                              refine pm_iload hC 9 dX11_next_107 rfl ?_
                              refine pm_iadd hC dX11_next_109 ?_
                              refine pm_iload hC 10 dX11_next_110 rfl ?_
                              refine pm_bipush (v := 10) hC dX11_next_112 (by decide) ?_
                              refine pm_imul hC dX11_next_114 ?_
                              refine pm_iload_n hC 3 dX11_next_115 rfl ?_
                              refine pm_iadd hC dX11_next_116 ?_
                              refine pm_iconst (v := 0) hC dX11_next_117 ?_
                              refine pm_callV (ci := 11) (as := [(0, (((a2 * 100) + (x179 * 10)) + x264)), (0, ((x282 * 10) + a3)), (0, 0)]) (st := []) hC 0 (c_X11_pose_0 (((a2 * 100) + (x179 * 10)) + x264) ((x282 * 10) + a3) 0 ⟨by omega, by omega⟩ ⟨by omega, by omega⟩ ⟨by decide, by decide⟩ (by omega)) lm_X11_229 li_X11_pose (by decide) (by decide) rfl rfl rfl (by decide) rfl rfl (Nat.le_of_ble_eq_true rfl) ⟨Nat.le_refl _, Or.inl rfl⟩ dX11_next_118 ⟨rfl, hV285⟩ (fun r296 V297 hp298 => ?_)
                              obtain ⟨rfl, hV299, hF300⟩ := hp298
                              change pm_J X 121 [(0, (3, 0)), (1, (0, a1)), (2, (0, a2)), (3, (0, a3)), (4, (0, a4)), (5, (0, 1)), (6, (0, x278)), (7, (0, x280)), (8, (0, x179)), (9, (0, x264)), (10, (0, x282))] [] 118 V297
                              have hF301 := pm_fr.tr hF286 hF300 (by decide)
                              have e302 : V297 0 8 = 51 := by rw [hF300 0 (by decide)]; exact e287
                              have e303 : V297 51 0 = y255 := by rw [hF300 51 (by decide)]; exact e288
                              refine pm_aload_n hC 0 (by decide) dX11_next_121 rfl ?_
                              have e304 : V297 0 5 = 73 := hV299.one 0 5 (by decide) (by decide) rfl
                              refine pm_getf (v := 73) hC 0 fl_X11_75 rfl rfl (by decide) rfl e304 dX11_next_122 ?_
                              refine pm_iload_n hC 1 dX11_next_125 rfl ?_
                              refine pm_bipush (v := 10) hC dX11_next_126 (by decide) ?_
                              refine pm_idiv hC ⟨by omega, by omega, by omega⟩ ⟨by decide, by decide, by decide⟩ dX11_next_128 ?_
                              refine pm_iload_n hC 1 dX11_next_129 rfl ?_
                              refine pm_bipush (v := 10) hC dX11_next_130 (by decide) ?_
                              refine pm_irem hC ⟨by omega, by omega, by omega⟩ ⟨by decide, by decide, by decide⟩ dX11_next_132 ?_
                              refine pm_callV (ci := 10) (as := [(0, (a1 / 10)), (0, (a1 % 10))]) (st := []) hC 73 (c_X10_partedBy_73 (a1 / 10) (a1 % 10) ⟨by omega, by omega⟩ ⟨by omega, by omega⟩) lm_X11_317 li_X10_partedBy (by decide) (by decide) rfl rfl rfl (by decide) rfl rfl (Nat.le_of_ble_eq_true rfl) ⟨Nat.le_refl _, Or.inl rfl⟩ dX11_next_133 ⟨rfl, hV299⟩ (fun r305 V306 hp307 => ?_)
                              obtain ⟨y308, rfl, b309, hV310, hF311⟩ := hp307
                              change pm_J X 136 [(0, (3, 0)), (1, (0, a1)), (2, (0, a2)), (3, (0, a3)), (4, (0, a4)), (5, (0, 1)), (6, (0, x278)), (7, (0, x280)), (8, (0, x179)), (9, (0, x264)), (10, (0, x282))] [(0, y308)] 118 V306
                              have hF312 := pm_fr.tr hF301 hF311 (by decide)
                              have e313 : V306 0 8 = 51 := by rw [hF311 0 (by decide)]; exact e302
                              have e314 : V306 51 0 = y255 := by rw [hF311 51 (by decide)]; exact e303
                              have e315 : V306 0 5 = 73 := by rw [hF311 0 (by decide)]; exact e304
                              refine pm_istore (lv' := [(11, (0, y308)), (0, (3, 0)), (1, (0, a1)), (2, (0, a2)), (3, (0, a3)), (4, (0, a4)), (5, (0, 1)), (6, (0, x278)), (7, (0, x280)), (8, (0, x179)), (9, (0, x264)), (10, (0, x282))]) hC dX11_next_136 (by decide) rfl ?_
                              refine pm_iload hC 0 dX11_next_138 rfl ?_
                              refine pm_iload hC 7 dX11_next_140 rfl ?_
                              refine pm_icmp_le (tgt := 165) hC ⟨by omega, by omega⟩ ⟨by omega, by omega⟩ dX11_next_142 (by decide) (fun c316 => ?_) (fun c316 => ?_)
                              · skip
                                obtain ⟨x317, ei318⟩ : ∃ y : Int, x282 + 1 = y := ⟨_, rfl⟩
                                refine pm_iinc (y := x317) (lv' := [(10, (0, x317)), (11, (0, y308)), (0, (3, 0)), (1, (0, a1)), (2, (0, a2)), (3, (0, a3)), (4, (0, a4)), (5, (0, 1)), (6, (0, x278)), (7, (0, x280)), (8, (0, x179)), (9, (0, x264))]) hC 11 dX11_next_165 (by decide) rfl ei318 rfl ?_
                                refine pm_goto (tgt := 89) hC dX11_next_168 (by decide) ?_
                                refine pm_lvsub [2, 3, 4, 5, 6, 7, 8, 9, 10, 11, 0] (lv' := [(0, (3, 0)), (1, (0, a1)), (2, (0, a2)), (3, (0, a3)), (4, (0, a4)), (5, (0, 1)), (6, (0, x278)), (7, (0, x280)), (8, (0, x179)), (9, (0, x264)), (10, (0, x317))]) rfl ?_
                                exact ih292 _ (by omega) x278 x280 x317 V306 ⟨by omega, by omega⟩ ⟨by omega, by omega⟩ ⟨by omega, by omega⟩ hV310 hF312 e313 e314 rfl
                              · skip
                                refine pm_iload hC 0 dX11_next_145 rfl ?_
                                refine pm_istore (lv' := [(6, (0, y308)), (11, (0, y308)), (0, (3, 0)), (1, (0, a1)), (2, (0, a2)), (3, (0, a3)), (4, (0, a4)), (5, (0, 1)), (7, (0, x280)), (8, (0, x179)), (9, (0, x264)), (10, (0, x282))]) hC dX11_next_147 (by decide) rfl ?_
                                refine pm_iload hC 9 dX11_next_149 rfl ?_
                                refine pm_bipush (v := 100) hC dX11_next_151 (by decide) ?_
                                refine pm_imul hC dX11_next_153 ?_
                                refine pm_iload hC 10 dX11_next_154 rfl ?_
                                refine pm_bipush (v := 10) hC dX11_next_156 (by decide) ?_
                                refine pm_imul hC dX11_next_158 ?_
                                refine pm_iadd hC dX11_next_159 ?_
                                refine pm_iload hC 11 dX11_next_160 rfl ?_
                                refine pm_iadd hC dX11_next_162 ?_
                                refine pm_istore (lv' := [(7, (0, (((x179 * 100) + (x264 * 10)) + x282))), (6, (0, y308)), (11, (0, y308)), (0, (3, 0)), (1, (0, a1)), (2, (0, a2)), (3, (0, a3)), (4, (0, a4)), (5, (0, 1)), (8, (0, x179)), (9, (0, x264)), (10, (0, x282))]) hC dX11_next_163 (by decide) rfl ?_
                                obtain ⟨x319, ei320⟩ : ∃ y : Int, x282 + 1 = y := ⟨_, rfl⟩
                                refine pm_iinc (y := x319) (lv' := [(10, (0, x319)), (7, (0, (((x179 * 100) + (x264 * 10)) + x282))), (6, (0, y308)), (11, (0, y308)), (0, (3, 0)), (1, (0, a1)), (2, (0, a2)), (3, (0, a3)), (4, (0, a4)), (5, (0, 1)), (8, (0, x179)), (9, (0, x264))]) hC 11 dX11_next_165 (by decide) rfl ei320 rfl ?_
                                refine pm_goto (tgt := 89) hC dX11_next_168 (by decide) ?_
                                refine pm_lvsub [4, 5, 6, 7, 8, 9, 2, 1, 10, 11, 0] (lv' := [(0, (3, 0)), (1, (0, a1)), (2, (0, a2)), (3, (0, a3)), (4, (0, a4)), (5, (0, 1)), (6, (0, y308)), (7, (0, (((x179 * 100) + (x264 * 10)) + x282))), (8, (0, x179)), (9, (0, x264)), (10, (0, x319))]) rfl ?_
                                exact ih292 _ (by omega) y308 (((x179 * 100) + (x264 * 10)) + x282) x319 V306 ⟨by omega, by omega⟩ ⟨by omega, by omega⟩ ⟨by omega, by omega⟩ hV310 hF312 e313 e314 rfl
                          refine pm_lvsub [1, 2, 3, 4, 5, 6, 7, 8, 9, 10, 0] (lv' := [(0, (3, 0)), (1, (0, a1)), (2, (0, a2)), (3, (0, a3)), (4, (0, a4)), (5, (0, 1)), (6, (0, x260)), (7, (0, x262)), (8, (0, x179)), (9, (0, x264)), (10, (0, 0))]) rfl ?_
                          exact L289 _ x260 x262 0 V266 ⟨by omega, by omega⟩ ⟨by omega, by omega⟩ ⟨by decide, by decide⟩ hV267 hF268 e269 e270 rfl
                      refine pm_lvsub [1, 2, 3, 4, 5, 6, 7, 8, 9, 0] (lv' := [(0, (3, 0)), (1, (0, a1)), (2, (0, a2)), (3, (0, a3)), (4, (0, a4)), (5, (0, 1)), (6, (0, x175)), (7, (0, x177)), (8, (0, x179)), (9, (0, 0))]) rfl ?_
                      exact L271 _ x175 x177 0 V181 ⟨by omega, by omega⟩ ⟨by omega, by omega⟩ ⟨by decide, by decide⟩ hV182 hF183 e188 e256 rfl
                refine pm_lvsub [4, 5, 6, 7, 8, 3, 2, 1, 0] (lv' := [(0, (3, 0)), (1, (0, a1)), (2, (0, a2)), (3, (0, a3)), (4, (0, a4)), (5, (0, 1)), (6, (0, (-1))), (7, (0, (-1))), (8, (0, 0))]) rfl ?_
                exact L184 _ (-1) (-1) 0 V0 ⟨by decide, by decide⟩ ⟨by decide, by decide⟩ ⟨by decide, by decide⟩ hV0 (pm_fr.rf (ws := [73, 74, 75, 76, 77]) (V := V0)) rfl
              · skip
                refine pm_iconst (v := (-1)) hC dX11_next_48 ?_
                exact pm_iret hC hR pm_nar0 ⟨(-1), rfl, ⟨by omega, by omega⟩, hV0, (pm_fr.rf (ws := [73, 74, 75, 76, 77]) (V := V0))⟩ dX11_next_49
