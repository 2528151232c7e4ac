set_option maxHeartbeats 4000000 in
set_option maxRecDepth 100000 in
theorem c_X11_trySpans_0 (a1 a2 a3 : Int) (h0 : 0 ≤ a1 ∧ a1 ≤ 9) (h1 : (-12) ≤ a2 ∧ a2 ≤ 12) (h2 : (-12) ≤ a3 ∧ a3 ≤ 12) : pm_K 6 yX11_trySpans cX11_trySpans 4 none (fun av V => av = [(3, 0), (0, a1), (0, a2), (0, a3)] ∧ pm_ok 0 90 V) (fun _ V r V' => r = none ∧ pm_ok 0 90 V' ∧ pm_fr [0, 73, 74, 75, 76, 77, 79, 80, 81, 82, 84, 85, 86, 87, 88, 89] V V') := by
  refine pm_MT.of (by decide) ⟨Nat.le_refl _, by decide⟩ (fun av V h => by rw [h.1]; exact (by decide : pm_words [(3, 0), (0, 0), (0, 0), (0, 0)] ≤ 4)) ?_
  rintro X av V0 hC - hR ⟨rfl, hV0⟩
  change pm_J X 0 [(0, (3, 0)), (1, (0, a1)), (2, (0, a2)), (3, (0, a3))] [] 118 V0
  refine pm_aload_n hC 0 (by decide) dX11_trySpans_0 rfl ?_
  refine pm_aload_n hC 0 (by decide) dX11_trySpans_1 rfl ?_
  rcases hV0.get2 0 13 (lo := 84) (hi := 87) (by decide) (by decide) rfl with e1 | e1
  · skip
    refine pm_getf (v := 84) hC 0 fl_X11_97 rfl rfl (by decide) rfl e1 dX11_trySpans_2 ?_
    refine pm_iload_n hC 1 dX11_trySpans_5 rfl ?_
    refine pm_iload_n hC 2 dX11_trySpans_6 rfl ?_
    refine pm_iload_n hC 3 dX11_trySpans_7 rfl ?_
    refine pm_aload_n hC 0 (by decide) dX11_trySpans_8 rfl ?_
    have e2 : V0 0 3 = 4 := hV0.one 0 3 (by decide) (by decide) rfl
    refine pm_getf (v := 4) hC 0 fl_X11_24 rfl rfl (by decide) rfl e2 dX11_trySpans_9 ?_
    have e3 : V0 4 4 = 7 := hV0.one 4 4 (by decide) (by decide) rfl
    refine pm_getf (v := 7) hC 4 fl_X11_192 rfl rfl (by decide) rfl e3 dX11_trySpans_12 ?_
    refine pm_iload_n hC 1 dX11_trySpans_15 rfl ?_
    obtain ⟨y4, e5⟩ : ∃ y, V0 7 (a1 : Int).toNat = y := ⟨_, rfl⟩
    have b6 := hV0.get 7 (a1 : Int).toNat (lo := 0) (hi := 16) (by decide) (show _ < 10 by omega) rfl
    rw [e5] at b6
    refine pm_iaload (len := 10) (v := y4) hC 7 rfl rfl (by decide) ⟨by omega, by omega⟩ (by decide) e5 dX11_trySpans_16 ?_
    refine pm_callV (ci := 11) (as := [(3, 84), (0, a1), (0, a2), (0, a3), (0, y4)]) (st := []) hC 0 (c_X11_gatherOdds_0_84 a1 a2 a3 y4 ⟨by omega, by omega⟩ ⟨by omega, by omega⟩ ⟨by omega, by omega⟩ ⟨by omega, by omega⟩) lm_X11_377 li_X11_gatherOdds (by decide) (by decide) rfl rfl rfl (by decide) rfl rfl (Nat.le_of_ble_eq_true rfl) ⟨Nat.le_refl _, Or.inl rfl⟩ dX11_trySpans_17 ⟨rfl, hV0⟩ (fun r7 V8 hp9 => ?_)
    obtain ⟨rfl, hV10, hF11⟩ := hp9
    change pm_J X 20 [(0, (3, 0)), (1, (0, a1)), (2, (0, a2)), (3, (0, a3))] [] 118 V8
    have hF12 := pm_fr.tr (pm_fr.rf (ws := [0, 73, 74, 75, 76, 77, 79, 80, 81, 82, 84, 85, 86, 87, 88, 89]) (V := V0)) hF11 (by decide)
    have e13 : V8 0 13 = 84 := by rw [hF11 0 (by decide)]; exact e1
    have e14 : V8 0 3 = 4 := by rw [hF11 0 (by decide)]; exact e2
    have e15 : V8 4 4 = 7 := by rw [hF11 4 (by decide)]; exact e3
    refine pm_aload_n hC 0 (by decide) dX11_trySpans_20 rfl ?_
    refine pm_callV (ci := 11) (as := []) (st := []) hC 0 c_X11_keepsTried_0 lm_X11_276 li_X11_keepsTried (by decide) (by decide) rfl rfl rfl (by decide) rfl rfl (Nat.le_of_ble_eq_true rfl) ⟨Nat.le_refl _, Or.inl rfl⟩ dX11_trySpans_21 ⟨rfl, hV10⟩ (fun r16 V17 hp18 => ?_)
    obtain ⟨y19, rfl, b20, hV21, hF22⟩ := hp18
    change pm_J X 24 [(0, (3, 0)), (1, (0, a1)), (2, (0, a2)), (3, (0, a3))] [(0, y19)] 118 V17
    have hF23 := pm_fr.tr hF12 hF22 (by decide)
    have e24 : V17 4 4 = 7 := by rw [hF22 4 (by decide)]; exact e15
    refine pm_if_eq (tgt := 37) hC ⟨by omega, by omega⟩ dX11_trySpans_24 (by decide) (fun c25 => ?_) (fun c25 => ?_)
    · skip
      exact pm_vret hC hR ⟨rfl, hV21, hF23⟩ dX11_trySpans_37
    · skip
      refine pm_aload_n hC 0 (by decide) dX11_trySpans_27 rfl ?_
      refine pm_iload_n hC 2 dX11_trySpans_28 rfl ?_
      refine pm_putf hC 0 fl_X11_100 rfl rfl rfl (by decide) rfl trivial dX11_trySpans_29 ?_
      refine pm_aload_n hC 0 (by decide) dX11_trySpans_32 rfl ?_
      refine pm_iload_n hC 3 dX11_trySpans_33 rfl ?_
      refine pm_putf hC 0 fl_X11_104 rfl rfl rfl (by decide) rfl trivial dX11_trySpans_34 ?_
      exact pm_vret hC hR ⟨rfl, ((hV21.put 0 14 (x := a2) (lo := (-2147483648)) (hi := 2147483647) rfl ⟨by omega, by omega⟩).put 0 15 (x := a3) (lo := (-2147483648)) (hi := 2147483647) rfl ⟨by omega, by omega⟩), ((hF23.up 0 14 a2 rfl).up 0 15 a3 rfl)⟩ dX11_trySpans_37
  · skip
    refine pm_getf (v := 87) hC 0 fl_X11_97 rfl rfl (by decide) rfl e1 dX11_trySpans_2 ?_
    refine pm_iload_n hC 1 dX11_trySpans_5 rfl ?_
    refine pm_iload_n hC 2 dX11_trySpans_6 rfl ?_
    refine pm_iload_n hC 3 dX11_trySpans_7 rfl ?_
    refine pm_aload_n hC 0 (by decide) dX11_trySpans_8 rfl ?_
    have e26 : V0 0 3 = 4 := hV0.one 0 3 (by decide) (by decide) rfl
    refine pm_getf (v := 4) hC 0 fl_X11_24 rfl rfl (by decide) rfl e26 dX11_trySpans_9 ?_
    have e27 : V0 4 4 = 7 := hV0.one 4 4 (by decide) (by decide) rfl
    refine pm_getf (v := 7) hC 4 fl_X11_192 rfl rfl (by decide) rfl e27 dX11_trySpans_12 ?_
    refine pm_iload_n hC 1 dX11_trySpans_15 rfl ?_
    obtain ⟨y28, e29⟩ : ∃ y, V0 7 (a1 : Int).toNat = y := ⟨_, rfl⟩
    have b30 := hV0.get 7 (a1 : Int).toNat (lo := 0) (hi := 16) (by decide) (show _ < 10 by omega) rfl
    rw [e29] at b30
    refine pm_iaload (len := 10) (v := y28) hC 7 rfl rfl (by decide) ⟨by omega, by omega⟩ (by decide) e29 dX11_trySpans_16 ?_
    refine pm_callV (ci := 11) (as := [(3, 87), (0, a1), (0, a2), (0, a3), (0, y28)]) (st := []) hC 0 (c_X11_gatherOdds_0_87 a1 a2 a3 y28 ⟨by omega, by omega⟩ ⟨by omega, by omega⟩ ⟨by omega, by omega⟩ ⟨by omega, by omega⟩) lm_X11_377 li_X11_gatherOdds (by decide) (by decide) rfl rfl rfl (by decide) rfl rfl (Nat.le_of_ble_eq_true rfl) ⟨Nat.le_refl _, Or.inl rfl⟩ dX11_trySpans_17 ⟨rfl, hV0⟩ (fun r31 V32 hp33 => ?_)
    obtain ⟨rfl, hV34, hF35⟩ := hp33
    change pm_J X 20 [(0, (3, 0)), (1, (0, a1)), (2, (0, a2)), (3, (0, a3))] [] 118 V32
    have hF36 := pm_fr.tr (pm_fr.rf (ws := [0, 73, 74, 75, 76, 77, 79, 80, 81, 82, 84, 85, 86, 87, 88, 89]) (V := V0)) hF35 (by decide)
    have e37 : V32 0 13 = 87 := by rw [hF35 0 (by decide)]; exact e1
    have e38 : V32 0 3 = 4 := by rw [hF35 0 (by decide)]; exact e26
    have e39 : V32 4 4 = 7 := by rw [hF35 4 (by decide)]; exact e27
    refine pm_aload_n hC 0 (by decide) dX11_trySpans_20 rfl ?_
    refine pm_callV (ci := 11) (as := []) (st := []) hC 0 c_X11_keepsTried_0 lm_X11_276 li_X11_keepsTried (by decide) (by decide) rfl rfl rfl (by decide) rfl rfl (Nat.le_of_ble_eq_true rfl) ⟨Nat.le_refl _, Or.inl rfl⟩ dX11_trySpans_21 ⟨rfl, hV34⟩ (fun r40 V41 hp42 => ?_)
    obtain ⟨y43, rfl, b44, hV45, hF46⟩ := hp42
    change pm_J X 24 [(0, (3, 0)), (1, (0, a1)), (2, (0, a2)), (3, (0, a3))] [(0, y43)] 118 V41
    have hF47 := pm_fr.tr hF36 hF46 (by decide)
    have e48 : V41 4 4 = 7 := by rw [hF46 4 (by decide)]; exact e39
    refine pm_if_eq (tgt := 37) hC ⟨by omega, by omega⟩ dX11_trySpans_24 (by decide) (fun c49 => ?_) (fun c49 => ?_)
    · skip
      exact pm_vret hC hR ⟨rfl, hV45, hF47⟩ dX11_trySpans_37
    · skip
      refine pm_aload_n hC 0 (by decide) dX11_trySpans_27 rfl ?_
      refine pm_iload_n hC 2 dX11_trySpans_28 rfl ?_
      refine pm_putf hC 0 fl_X11_100 rfl rfl rfl (by decide) rfl trivial dX11_trySpans_29 ?_
      refine pm_aload_n hC 0 (by decide) dX11_trySpans_32 rfl ?_
      refine pm_iload_n hC 3 dX11_trySpans_33 rfl ?_
      refine pm_putf hC 0 fl_X11_104 rfl rfl rfl (by decide) rfl trivial dX11_trySpans_34 ?_
      exact pm_vret hC hR ⟨rfl, ((hV45.put 0 14 (x := a2) (lo := (-2147483648)) (hi := 2147483647) rfl ⟨by omega, by omega⟩).put 0 15 (x := a3) (lo := (-2147483648)) (hi := 2147483647) rfl ⟨by omega, by omega⟩), ((hF47.up 0 14 a2 rfl).up 0 15 a3 rfl)⟩ dX11_trySpans_37
set_option maxHeartbeats 4000000 in
set_option maxRecDepth 100000 in
theorem c_X11_findOwnSpans_0 (a1 : Int) (h0 : 0 ≤ a1 ∧ a1 ≤ 9) : pm_K 7 yX11_findOwnSpans cX11_findOwnSpans 5 none (fun av V => av = [(3, 0), (0, a1)] ∧ pm_ok 0 90 V) (fun _ V r V' => r = none ∧ pm_ok 0 90 V' ∧ pm_fr [0, 73, 74, 75, 76, 77, 79, 80, 81, 82, 84, 85, 86, 87, 88, 89] V V') := by
  refine pm_MT.of (by decide) ⟨Nat.le_refl _, by decide⟩ (fun av V h => by rw [h.1]; exact (by decide : pm_words [(3, 0), (0, 0)] ≤ 5)) ?_
  rintro X av V0 hC - hR ⟨rfl, hV0⟩
  change pm_J X 0 [(0, (3, 0)), (1, (0, a1))] [] 118 V0
  refine pm_aload_n hC 0 (by decide) dX11_findOwnSpans_0 rfl ?_
  refine pm_iconst (v := 0) hC dX11_findOwnSpans_1 ?_
  refine pm_putf hC 0 fl_X11_100 rfl rfl rfl (by decide) rfl trivial dX11_findOwnSpans_2 ?_
  refine pm_aload_n hC 0 (by decide) dX11_findOwnSpans_5 rfl ?_
  refine pm_iconst (v := 0) hC dX11_findOwnSpans_6 ?_
  refine pm_putf hC 0 fl_X11_104 rfl rfl rfl (by decide) rfl trivial dX11_findOwnSpans_7 ?_
  refine pm_aload_n hC 0 (by decide) dX11_findOwnSpans_10 rfl ?_
  refine pm_aload_n hC 0 (by decide) dX11_findOwnSpans_11 rfl ?_
  rcases hV0.get2 0 12 (lo := 84) (hi := 87) (by decide) (by decide) rfl with e1 | e1
  · skip
    refine pm_getf (v := 84) hC 0 fl_X11_93 rfl rfl (by decide) rfl e1 dX11_findOwnSpans_12 ?_
    refine pm_iload_n hC 1 dX11_findOwnSpans_15 rfl ?_
    refine pm_iconst (v := 0) hC dX11_findOwnSpans_16 ?_
    refine pm_iconst (v := 0) hC dX11_findOwnSpans_17 ?_
    refine pm_aload_n hC 0 (by decide) dX11_findOwnSpans_18 rfl ?_
    have e2 : V0 0 3 = 4 := hV0.one 0 3 (by decide) (by decide) rfl
    refine pm_getf (v := 4) hC 0 fl_X11_24 rfl rfl (by decide) rfl e2 dX11_findOwnSpans_19 ?_
    have e3 : V0 4 4 = 7 := hV0.one 4 4 (by decide) (by decide) rfl
    refine pm_getf (v := 7) hC 4 fl_X11_192 rfl rfl (by decide) rfl e3 dX11_findOwnSpans_22 ?_
    refine pm_iload_n hC 1 dX11_findOwnSpans_25 rfl ?_
    obtain ⟨y4, e5⟩ : ∃ y, V0 7 (a1 : Int).toNat = y := ⟨_, rfl⟩
    have b6 := hV0.get 7 (a1 : Int).toNat (lo := 0) (hi := 16) (by decide) (show _ < 10 by omega) rfl
    rw [e5] at b6
    refine pm_iaload (len := 10) (v := y4) hC 7 rfl rfl (by decide) ⟨by omega, by omega⟩ (by decide) e5 dX11_findOwnSpans_26 ?_
    refine pm_callV (ci := 11) (as := [(3, 84), (0, a1), (0, 0), (0, 0), (0, y4)]) (st := []) hC 0 (c_X11_gatherOdds_0_84 a1 0 0 y4 ⟨by omega, by omega⟩ ⟨by decide, by decide⟩ ⟨by decide, by decide⟩ ⟨by omega, by omega⟩) lm_X11_377 li_X11_gatherOdds (by decide) (by decide) rfl rfl rfl (by decide) rfl rfl (Nat.le_of_ble_eq_true rfl) ⟨Nat.le_refl _, Or.inl rfl⟩ dX11_findOwnSpans_27 ⟨rfl, ((hV0.put 0 14 (x := 0) (lo := (-2147483648)) (hi := 2147483647) rfl ⟨by decide, by decide⟩).put 0 15 (x := 0) (lo := (-2147483648)) (hi := 2147483647) rfl ⟨by decide, by decide⟩)⟩ (fun r7 V8 hp9 => ?_)
    obtain ⟨rfl, hV10, hF11⟩ := hp9
    change pm_J X 30 [(0, (3, 0)), (1, (0, a1))] [] 118 V8
    have hF12 := pm_fr.tr (((pm_fr.rf (ws := [0, 73, 74, 75, 76, 77, 79, 80, 81, 82, 84, 85, 86, 87, 88, 89]) (V := V0)).up 0 14 0 rfl).up 0 15 0 rfl) hF11 (by decide)
    have e13 : V8 0 12 = 84 := by rw [hF11 0 (by decide)]; exact e1
    have e14 : V8 0 3 = 4 := by rw [hF11 0 (by decide)]; exact e2
    have e15 : V8 4 4 = 7 := by rw [hF11 4 (by decide)]; exact e3
    have e16 : V8 0 14 = 0 := by rw [hF11 0 (by decide)]; rfl
    have e17 : V8 0 15 = 0 := by rw [hF11 0 (by decide)]; rfl
    refine pm_iconst (v := 1) hC dX11_findOwnSpans_30 ?_
    refine pm_istore_n (lv' := [(2, (0, 1)), (0, (3, 0)), (1, (0, a1))]) hC dX11_findOwnSpans_31 (by decide) rfl ?_
    have L24 : ∀ (N26 : Nat) (x18 : Int) (V20 : pm_M), (1 ≤ x18 ∧ x18 ≤ 60) → pm_ok 0 90 V20 → pm_fr [0, 73, 74, 75, 76, 77, 79, 80, 81, 82, 84, 85, 86, 87, 88, 89] V0 V20 → V20 4 4 = 7 → (Int.toNat (60 - x18)) = N26 → pm_J X 32 [(0, (3, 0)), (1, (0, a1)), (2, (0, x18))] [] 118 V20 := by
      intro N26
      induction N26 using Nat.strongRecOn with
      | _ N26 ih27 =>
      intro x18 V20 b19 hV21 hF22 e23 hm25
      refine pm_iload_n hC 2 dX11_findOwnSpans_32 rfl ?_
      refine pm_bipush (v := 24) hC dX11_findOwnSpans_33 (by decide) ?_
      refine pm_icmp_gt (tgt := 108) hC ⟨by omega, by omega⟩ ⟨by decide, by decide⟩ dX11_findOwnSpans_35 (by decide) (fun c28 => ?_) (fun c28 => ?_)
      · skip
        exact pm_vret hC hR ⟨rfl, hV21, hF22⟩ dX11_findOwnSpans_108
      · skip
        refine pm_bipush (v := (-12)) hC dX11_findOwnSpans_38 (by decide) ?_
        refine pm_istore_n (lv' := [(3, (0, (-12))), (0, (3, 0)), (1, (0, a1)), (2, (0, x18))]) hC dX11_findOwnSpans_40 (by decide) rfl ?_
        have L35 : ∀ (N37 : Nat) (x29 : Int) (V31 : pm_M), ((-12) ≤ x29 ∧ x29 ≤ 16) → pm_ok 0 90 V31 → pm_fr [0, 73, 74, 75, 76, 77, 79, 80, 81, 82, 84, 85, 86, 87, 88, 89] V0 V31 → V31 4 4 = 7 → (Int.toNat (16 - x29)) = N37 → pm_J X 41 [(0, (3, 0)), (1, (0, a1)), (2, (0, x18)), (3, (0, x29))] [] 118 V31 := by
          intro N37
          induction N37 using Nat.strongRecOn with
          | _ N37 ih38 =>
          intro x29 V31 b30 hV32 hF33 e34 hm36
          refine pm_iload_n hC 3 dX11_findOwnSpans_41 rfl ?_
          refine pm_bipush (v := 12) hC dX11_findOwnSpans_42 (by decide) ?_
          refine pm_icmp_gt (tgt := 102) hC ⟨by omega, by omega⟩ ⟨by decide, by decide⟩ dX11_findOwnSpans_44 (by decide) (fun c39 => ?_) (fun c39 => ?_)
          · skip
            obtain ⟨x40, ei41⟩ : ∃ y : Int, x18 + 1 = y := ⟨_, rfl⟩
            refine pm_iinc (y := x40) (lv' := [(2, (0, x40)), (0, (3, 0)), (1, (0, a1)), (3, (0, x29))]) hC 2 dX11_findOwnSpans_102 (by decide) rfl ei41 rfl ?_
            refine pm_goto (tgt := 32) hC dX11_findOwnSpans_105 (by decide) ?_
            refine pm_lvsub [1, 2, 0] (lv' := [(0, (3, 0)), (1, (0, a1)), (2, (0, x40))]) rfl ?_
            exact ih27 _ (by omega) x40 V31 ⟨by omega, by omega⟩ hV32 hF33 e34 rfl
          · skip
            refine pm_iload_n hC 2 dX11_findOwnSpans_47 rfl ?_
            refine pm_iload_n hC 3 dX11_findOwnSpans_48 rfl ?_
            refine pm_mabs hC 4214 4015 1018 4016 ⟨by omega, by omega⟩ (by decide) wL_X11_366 wS_mabs wI_math wC_mabs (Nat.le_of_ble_eq_true rfl) dX11_findOwnSpans_49 (fun y42 b43 => ?_)
            have b43 := And.intro b43.1.1 (And.intro b43.1.2 b43.2)
            refine pm_isub hC dX11_findOwnSpans_52 ?_
            refine pm_istore (lv' := [(4, (0, (x18 - y42))), (0, (3, 0)), (1, (0, a1)), (2, (0, x18)), (3, (0, x29))]) hC dX11_findOwnSpans_53 (by decide) rfl ?_
            refine pm_iload hC 0 dX11_findOwnSpans_55 rfl ?_
            refine pm_if_lt (tgt := 76) hC ⟨by omega, by omega⟩ dX11_findOwnSpans_57 (by decide) (fun c44 => ?_) (fun c44 => ?_)
            · skip
              refine pm_iload hC 0 dX11_findOwnSpans_76 rfl ?_
              refine pm_if_le (tgt := 96) hC ⟨by omega, by omega⟩ dX11_findOwnSpans_78 (by decide) (fun c45 => ?_) (fun c45 => ?_)
              · skip
                obtain ⟨x46, ei47⟩ : ∃ y : Int, x29 + 1 = y := ⟨_, rfl⟩
                refine pm_iinc (y := x46) (lv' := [(3, (0, x46)), (4, (0, (x18 - y42))), (0, (3, 0)), (1, (0, a1)), (2, (0, x18))]) hC 4 dX11_findOwnSpans_96 (by decide) rfl ei47 rfl ?_
                refine pm_goto (tgt := 41) hC dX11_findOwnSpans_99 (by decide) ?_
                refine pm_lvsub [2, 3, 4, 0] (lv' := [(0, (3, 0)), (1, (0, a1)), (2, (0, x18)), (3, (0, x46))]) rfl ?_
                exact ih38 _ (by omega) x46 V31 ⟨by omega, by omega⟩ hV32 hF33 e34 rfl
              · skip
                exfalso; omega
            · skip
              refine pm_iload hC 0 dX11_findOwnSpans_60 rfl ?_
              refine pm_bipush (v := 12) hC dX11_findOwnSpans_62 (by decide) ?_
              refine pm_icmp_gt (tgt := 76) hC ⟨by omega, by omega⟩ ⟨by decide, by decide⟩ dX11_findOwnSpans_64 (by decide) (fun c48 => ?_) (fun c48 => ?_)
              · skip
                refine pm_iload hC 0 dX11_findOwnSpans_76 rfl ?_
                refine pm_if_le (tgt := 96) hC ⟨by omega, by omega⟩ dX11_findOwnSpans_78 (by decide) (fun c49 => ?_) (fun c49 => ?_)
                · skip
                  exfalso; omega
                · skip
                  refine pm_iload hC 0 dX11_findOwnSpans_81 rfl ?_
                  refine pm_bipush (v := 12) hC dX11_findOwnSpans_83 (by decide) ?_
                  refine pm_icmp_gt (tgt := 96) hC ⟨by omega, by omega⟩ ⟨by decide, by decide⟩ dX11_findOwnSpans_85 (by decide) (fun c50 => ?_) (fun c50 => ?_)
                  · skip
                    obtain ⟨x51, ei52⟩ : ∃ y : Int, x29 + 1 = y := ⟨_, rfl⟩
                    refine pm_iinc (y := x51) (lv' := [(3, (0, x51)), (4, (0, (x18 - y42))), (0, (3, 0)), (1, (0, a1)), (2, (0, x18))]) hC 4 dX11_findOwnSpans_96 (by decide) rfl ei52 rfl ?_
                    refine pm_goto (tgt := 41) hC dX11_findOwnSpans_99 (by decide) ?_
                    refine pm_lvsub [2, 3, 4, 0] (lv' := [(0, (3, 0)), (1, (0, a1)), (2, (0, x18)), (3, (0, x51))]) rfl ?_
                    exact ih38 _ (by omega) x51 V31 ⟨by omega, by omega⟩ hV32 hF33 e34 rfl
                  · skip
                    exfalso; omega
              · skip
                refine pm_aload_n hC 1 (by decide) dX11_findOwnSpans_67 rfl ?_
                refine pm_iload_n hC 2 dX11_findOwnSpans_68 rfl ?_
                refine pm_iload_n hC 4 dX11_findOwnSpans_69 rfl ?_
                refine pm_iload hC 0 dX11_findOwnSpans_70 rfl ?_
                refine pm_ineg hC dX11_findOwnSpans_72 ?_
                refine pm_callV (ci := 11) (as := [(0, a1), (0, x29), (0, (-(x18 - y42)))]) (st := []) hC 0 (c_X11_trySpans_0 a1 x29 (-(x18 - y42)) ⟨by omega, by omega⟩ ⟨by omega, by omega⟩ ⟨by omega, by omega⟩) lm_X11_381 li_X11_trySpans (by decide) (by decide) rfl rfl rfl (by decide) rfl rfl (Nat.le_of_ble_eq_true rfl) ⟨Nat.le_refl _, Or.inl rfl⟩ dX11_findOwnSpans_73 ⟨rfl, hV32⟩ (fun r53 V54 hp55 => ?_)
                obtain ⟨rfl, hV56, hF57⟩ := hp55
                change pm_J X 76 [(4, (0, (x18 - y42))), (0, (3, 0)), (1, (0, a1)), (2, (0, x18)), (3, (0, x29))] [] 118 V54
                have hF58 := pm_fr.tr hF33 hF57 (by decide)
                have e59 : V54 4 4 = 7 := by rw [hF57 4 (by decide)]; exact e34
                refine pm_iload hC 0 dX11_findOwnSpans_76 rfl ?_
                refine pm_if_le (tgt := 96) hC ⟨by omega, by omega⟩ dX11_findOwnSpans_78 (by decide) (fun c60 => ?_) (fun c60 => ?_)
                · skip
                  obtain ⟨x61, ei62⟩ : ∃ y : Int, x29 + 1 = y := ⟨_, rfl⟩
                  refine pm_iinc (y := x61) (lv' := [(3, (0, x61)), (4, (0, (x18 - y42))), (0, (3, 0)), (1, (0, a1)), (2, (0, x18))]) hC 4 dX11_findOwnSpans_96 (by decide) rfl ei62 rfl ?_
                  refine pm_goto (tgt := 41) hC dX11_findOwnSpans_99 (by decide) ?_
                  refine pm_lvsub [2, 3, 4, 0] (lv' := [(0, (3, 0)), (1, (0, a1)), (2, (0, x18)), (3, (0, x61))]) rfl ?_
                  exact ih38 _ (by omega) x61 V54 ⟨by omega, by omega⟩ hV56 hF58 e59 rfl
                · skip
                  refine pm_iload hC 0 dX11_findOwnSpans_81 rfl ?_
                  refine pm_bipush (v := 12) hC dX11_findOwnSpans_83 (by decide) ?_
                  refine pm_icmp_gt (tgt := 96) hC ⟨by omega, by omega⟩ ⟨by decide, by decide⟩ dX11_findOwnSpans_85 (by decide) (fun c63 => ?_) (fun c63 => ?_)
                  · skip
                    exfalso; omega
                  · skip
                    refine pm_aload_n hC 1 (by decide) dX11_findOwnSpans_88 rfl ?_
                    refine pm_iload_n hC 2 dX11_findOwnSpans_89 rfl ?_
                    refine pm_iload_n hC 4 dX11_findOwnSpans_90 rfl ?_
                    refine pm_iload hC 0 dX11_findOwnSpans_91 rfl ?_
                    refine pm_callV (ci := 11) (as := [(0, a1), (0, x29), (0, (x18 - y42))]) (st := []) hC 0 (c_X11_trySpans_0 a1 x29 (x18 - y42) ⟨by omega, by omega⟩ ⟨by omega, by omega⟩ ⟨by omega, by omega⟩) lm_X11_381 li_X11_trySpans (by decide) (by decide) rfl rfl rfl (by decide) rfl rfl (Nat.le_of_ble_eq_true rfl) ⟨Nat.le_refl _, Or.inl rfl⟩ dX11_findOwnSpans_93 ⟨rfl, hV56⟩ (fun r64 V65 hp66 => ?_)
                    obtain ⟨rfl, hV67, hF68⟩ := hp66
                    change pm_J X 96 [(4, (0, (x18 - y42))), (0, (3, 0)), (1, (0, a1)), (2, (0, x18)), (3, (0, x29))] [] 118 V65
                    have hF69 := pm_fr.tr hF58 hF68 (by decide)
                    have e70 : V65 4 4 = 7 := by rw [hF68 4 (by decide)]; exact e59
                    obtain ⟨x71, ei72⟩ : ∃ y : Int, x29 + 1 = y := ⟨_, rfl⟩
                    refine pm_iinc (y := x71) (lv' := [(3, (0, x71)), (4, (0, (x18 - y42))), (0, (3, 0)), (1, (0, a1)), (2, (0, x18))]) hC 4 dX11_findOwnSpans_96 (by decide) rfl ei72 rfl ?_
                    refine pm_goto (tgt := 41) hC dX11_findOwnSpans_99 (by decide) ?_
                    refine pm_lvsub [2, 3, 4, 0] (lv' := [(0, (3, 0)), (1, (0, a1)), (2, (0, x18)), (3, (0, x71))]) rfl ?_
                    exact ih38 _ (by omega) x71 V65 ⟨by omega, by omega⟩ hV67 hF69 e70 rfl
        refine pm_lvsub [1, 2, 3, 0] (lv' := [(0, (3, 0)), (1, (0, a1)), (2, (0, x18)), (3, (0, (-12)))]) rfl ?_
        exact L35 _ (-12) V20 ⟨by decide, by decide⟩ hV21 hF22 e23 rfl
    refine pm_lvsub [1, 2, 0] (lv' := [(0, (3, 0)), (1, (0, a1)), (2, (0, 1))]) rfl ?_
    exact L24 _ 1 V8 ⟨by decide, by decide⟩ hV10 hF12 e15 rfl
  · skip
    refine pm_getf (v := 87) hC 0 fl_X11_93 rfl rfl (by decide) rfl e1 dX11_findOwnSpans_12 ?_
    refine pm_iload_n hC 1 dX11_findOwnSpans_15 rfl ?_
    refine pm_iconst (v := 0) hC dX11_findOwnSpans_16 ?_
    refine pm_iconst (v := 0) hC dX11_findOwnSpans_17 ?_
    refine pm_aload_n hC 0 (by decide) dX11_findOwnSpans_18 rfl ?_
    have e73 : V0 0 3 = 4 := hV0.one 0 3 (by decide) (by decide) rfl
    refine pm_getf (v := 4) hC 0 fl_X11_24 rfl rfl (by decide) rfl e73 dX11_findOwnSpans_19 ?_
    have e74 : V0 4 4 = 7 := hV0.one 4 4 (by decide) (by decide) rfl
    refine pm_getf (v := 7) hC 4 fl_X11_192 rfl rfl (by decide) rfl e74 dX11_findOwnSpans_22 ?_
    refine pm_iload_n hC 1 dX11_findOwnSpans_25 rfl ?_
    obtain ⟨y75, e76⟩ : ∃ y, V0 7 (a1 : Int).toNat = y := ⟨_, rfl⟩
    have b77 := hV0.get 7 (a1 : Int).toNat (lo := 0) (hi := 16) (by decide) (show _ < 10 by omega) rfl
    rw [e76] at b77
    refine pm_iaload (len := 10) (v := y75) hC 7 rfl rfl (by decide) ⟨by omega, by omega⟩ (by decide) e76 dX11_findOwnSpans_26 ?_
    refine pm_callV (ci := 11) (as := [(3, 87), (0, a1), (0, 0), (0, 0), (0, y75)]) (st := []) hC 0 (c_X11_gatherOdds_0_87 a1 0 0 y75 ⟨by omega, by omega⟩ ⟨by decide, by decide⟩ ⟨by decide, by decide⟩ ⟨by omega, by omega⟩) lm_X11_377 li_X11_gatherOdds (by decide) (by decide) rfl rfl rfl (by decide) rfl rfl (Nat.le_of_ble_eq_true rfl) ⟨Nat.le_refl _, Or.inl rfl⟩ dX11_findOwnSpans_27 ⟨rfl, ((hV0.put 0 14 (x := 0) (lo := (-2147483648)) (hi := 2147483647) rfl ⟨by decide, by decide⟩).put 0 15 (x := 0) (lo := (-2147483648)) (hi := 2147483647) rfl ⟨by decide, by decide⟩)⟩ (fun r78 V79 hp80 => ?_)
    obtain ⟨rfl, hV81, hF82⟩ := hp80
    change pm_J X 30 [(0, (3, 0)), (1, (0, a1))] [] 118 V79
    have hF83 := pm_fr.tr (((pm_fr.rf (ws := [0, 73, 74, 75, 76, 77, 79, 80, 81, 82, 84, 85, 86, 87, 88, 89]) (V := V0)).up 0 14 0 rfl).up 0 15 0 rfl) hF82 (by decide)
    have e84 : V79 0 12 = 87 := by rw [hF82 0 (by decide)]; exact e1
    have e85 : V79 0 3 = 4 := by rw [hF82 0 (by decide)]; exact e73
    have e86 : V79 4 4 = 7 := by rw [hF82 4 (by decide)]; exact e74
    have e87 : V79 0 14 = 0 := by rw [hF82 0 (by decide)]; rfl
    have e88 : V79 0 15 = 0 := by rw [hF82 0 (by decide)]; rfl
    refine pm_iconst (v := 1) hC dX11_findOwnSpans_30 ?_
    refine pm_istore_n (lv' := [(2, (0, 1)), (0, (3, 0)), (1, (0, a1))]) hC dX11_findOwnSpans_31 (by decide) rfl ?_
    have L95 : ∀ (N97 : Nat) (x89 : Int) (V91 : pm_M), (1 ≤ x89 ∧ x89 ≤ 60) → pm_ok 0 90 V91 → pm_fr [0, 73, 74, 75, 76, 77, 79, 80, 81, 82, 84, 85, 86, 87, 88, 89] V0 V91 → V91 4 4 = 7 → (Int.toNat (60 - x89)) = N97 → pm_J X 32 [(0, (3, 0)), (1, (0, a1)), (2, (0, x89))] [] 118 V91 := by
      intro N97
      induction N97 using Nat.strongRecOn with
      | _ N97 ih98 =>
      intro x89 V91 b90 hV92 hF93 e94 hm96
      refine pm_iload_n hC 2 dX11_findOwnSpans_32 rfl ?_
      refine pm_bipush (v := 24) hC dX11_findOwnSpans_33 (by decide) ?_
      refine pm_icmp_gt (tgt := 108) hC ⟨by omega, by omega⟩ ⟨by decide, by decide⟩ dX11_findOwnSpans_35 (by decide) (fun c99 => ?_) (fun c99 => ?_)
      · skip
        exact pm_vret hC hR ⟨rfl, hV92, hF93⟩ dX11_findOwnSpans_108
      · skip
        refine pm_bipush (v := (-12)) hC dX11_findOwnSpans_38 (by decide) ?_
        refine pm_istore_n (lv' := [(3, (0, (-12))), (0, (3, 0)), (1, (0, a1)), (2, (0, x89))]) hC dX11_findOwnSpans_40 (by decide) rfl ?_
        have L106 : ∀ (N108 : Nat) (x100 : Int) (V102 : pm_M), ((-12) ≤ x100 ∧ x100 ≤ 16) → pm_ok 0 90 V102 → pm_fr [0, 73, 74, 75, 76, 77, 79, 80, 81, 82, 84, 85, 86, 87, 88, 89] V0 V102 → V102 4 4 = 7 → (Int.toNat (16 - x100)) = N108 → pm_J X 41 [(0, (3, 0)), (1, (0, a1)), (2, (0, x89)), (3, (0, x100))] [] 118 V102 := by
          intro N108
          induction N108 using Nat.strongRecOn with
          | _ N108 ih109 =>
          intro x100 V102 b101 hV103 hF104 e105 hm107
          refine pm_iload_n hC 3 dX11_findOwnSpans_41 rfl ?_
          refine pm_bipush (v := 12) hC dX11_findOwnSpans_42 (by decide) ?_
          refine pm_icmp_gt (tgt := 102) hC ⟨by omega, by omega⟩ ⟨by decide, by decide⟩ dX11_findOwnSpans_44 (by decide) (fun c110 => ?_) (fun c110 => ?_)
          · skip
            obtain ⟨x111, ei112⟩ : ∃ y : Int, x89 + 1 = y := ⟨_, rfl⟩
            refine pm_iinc (y := x111) (lv' := [(2, (0, x111)), (0, (3, 0)), (1, (0, a1)), (3, (0, x100))]) hC 2 dX11_findOwnSpans_102 (by decide) rfl ei112 rfl ?_
            refine pm_goto (tgt := 32) hC dX11_findOwnSpans_105 (by decide) ?_
            refine pm_lvsub [1, 2, 0] (lv' := [(0, (3, 0)), (1, (0, a1)), (2, (0, x111))]) rfl ?_
            exact ih98 _ (by omega) x111 V102 ⟨by omega, by omega⟩ hV103 hF104 e105 rfl
          · skip
            refine pm_iload_n hC 2 dX11_findOwnSpans_47 rfl ?_
            refine pm_iload_n hC 3 dX11_findOwnSpans_48 rfl ?_
            refine pm_mabs hC 4214 4015 1018 4016 ⟨by omega, by omega⟩ (by decide) wL_X11_366 wS_mabs wI_math wC_mabs (Nat.le_of_ble_eq_true rfl) dX11_findOwnSpans_49 (fun y113 b114 => ?_)
            have b114 := And.intro b114.1.1 (And.intro b114.1.2 b114.2)
            refine pm_isub hC dX11_findOwnSpans_52 ?_
            refine pm_istore (lv' := [(4, (0, (x89 - y113))), (0, (3, 0)), (1, (0, a1)), (2, (0, x89)), (3, (0, x100))]) hC dX11_findOwnSpans_53 (by decide) rfl ?_
            refine pm_iload hC 0 dX11_findOwnSpans_55 rfl ?_
            refine pm_if_lt (tgt := 76) hC ⟨by omega, by omega⟩ dX11_findOwnSpans_57 (by decide) (fun c115 => ?_) (fun c115 => ?_)
            · skip
              refine pm_iload hC 0 dX11_findOwnSpans_76 rfl ?_
              refine pm_if_le (tgt := 96) hC ⟨by omega, by omega⟩ dX11_findOwnSpans_78 (by decide) (fun c116 => ?_) (fun c116 => ?_)
              · skip
                obtain ⟨x117, ei118⟩ : ∃ y : Int, x100 + 1 = y := ⟨_, rfl⟩
                refine pm_iinc (y := x117) (lv' := [(3, (0, x117)), (4, (0, (x89 - y113))), (0, (3, 0)), (1, (0, a1)), (2, (0, x89))]) hC 4 dX11_findOwnSpans_96 (by decide) rfl ei118 rfl ?_
                refine pm_goto (tgt := 41) hC dX11_findOwnSpans_99 (by decide) ?_
                refine pm_lvsub [2, 3, 4, 0] (lv' := [(0, (3, 0)), (1, (0, a1)), (2, (0, x89)), (3, (0, x117))]) rfl ?_
                exact ih109 _ (by omega) x117 V102 ⟨by omega, by omega⟩ hV103 hF104 e105 rfl
              · skip
                exfalso; omega
            · skip
              refine pm_iload hC 0 dX11_findOwnSpans_60 rfl ?_
              refine pm_bipush (v := 12) hC dX11_findOwnSpans_62 (by decide) ?_
              refine pm_icmp_gt (tgt := 76) hC ⟨by omega, by omega⟩ ⟨by decide, by decide⟩ dX11_findOwnSpans_64 (by decide) (fun c119 => ?_) (fun c119 => ?_)
              · skip
                refine pm_iload hC 0 dX11_findOwnSpans_76 rfl ?_
                refine pm_if_le (tgt := 96) hC ⟨by omega, by omega⟩ dX11_findOwnSpans_78 (by decide) (fun c120 => ?_) (fun c120 => ?_)
                · skip
                  exfalso; omega
                · skip
                  refine pm_iload hC 0 dX11_findOwnSpans_81 rfl ?_
                  refine pm_bipush (v := 12) hC dX11_findOwnSpans_83 (by decide) ?_
                  refine pm_icmp_gt (tgt := 96) hC ⟨by omega, by omega⟩ ⟨by decide, by decide⟩ dX11_findOwnSpans_85 (by decide) (fun c121 => ?_) (fun c121 => ?_)
                  · skip
                    obtain ⟨x122, ei123⟩ : ∃ y : Int, x100 + 1 = y := ⟨_, rfl⟩
                    refine pm_iinc (y := x122) (lv' := [(3, (0, x122)), (4, (0, (x89 - y113))), (0, (3, 0)), (1, (0, a1)), (2, (0, x89))]) hC 4 dX11_findOwnSpans_96 (by decide) rfl ei123 rfl ?_
                    refine pm_goto (tgt := 41) hC dX11_findOwnSpans_99 (by decide) ?_
                    refine pm_lvsub [2, 3, 4, 0] (lv' := [(0, (3, 0)), (1, (0, a1)), (2, (0, x89)), (3, (0, x122))]) rfl ?_
                    exact ih109 _ (by omega) x122 V102 ⟨by omega, by omega⟩ hV103 hF104 e105 rfl
                  · skip
                    exfalso; omega
              · skip
                refine pm_aload_n hC 1 (by decide) dX11_findOwnSpans_67 rfl ?_
                refine pm_iload_n hC 2 dX11_findOwnSpans_68 rfl ?_
                refine pm_iload_n hC 4 dX11_findOwnSpans_69 rfl ?_
                refine pm_iload hC 0 dX11_findOwnSpans_70 rfl ?_
                refine pm_ineg hC dX11_findOwnSpans_72 ?_
                refine pm_callV (ci := 11) (as := [(0, a1), (0, x100), (0, (-(x89 - y113)))]) (st := []) hC 0 (c_X11_trySpans_0 a1 x100 (-(x89 - y113)) ⟨by omega, by omega⟩ ⟨by omega, by omega⟩ ⟨by omega, by omega⟩) lm_X11_381 li_X11_trySpans (by decide) (by decide) rfl rfl rfl (by decide) rfl rfl (Nat.le_of_ble_eq_true rfl) ⟨Nat.le_refl _, Or.inl rfl⟩ dX11_findOwnSpans_73 ⟨rfl, hV103⟩ (fun r124 V125 hp126 => ?_)
                obtain ⟨rfl, hV127, hF128⟩ := hp126
                change pm_J X 76 [(4, (0, (x89 - y113))), (0, (3, 0)), (1, (0, a1)), (2, (0, x89)), (3, (0, x100))] [] 118 V125
                have hF129 := pm_fr.tr hF104 hF128 (by decide)
                have e130 : V125 4 4 = 7 := by rw [hF128 4 (by decide)]; exact e105
                refine pm_iload hC 0 dX11_findOwnSpans_76 rfl ?_
                refine pm_if_le (tgt := 96) hC ⟨by omega, by omega⟩ dX11_findOwnSpans_78 (by decide) (fun c131 => ?_) (fun c131 => ?_)
                · skip
                  obtain ⟨x132, ei133⟩ : ∃ y : Int, x100 + 1 = y := ⟨_, rfl⟩
                  refine pm_iinc (y := x132) (lv' := [(3, (0, x132)), (4, (0, (x89 - y113))), (0, (3, 0)), (1, (0, a1)), (2, (0, x89))]) hC 4 dX11_findOwnSpans_96 (by decide) rfl ei133 rfl ?_
                  refine pm_goto (tgt := 41) hC dX11_findOwnSpans_99 (by decide) ?_
                  refine pm_lvsub [2, 3, 4, 0] (lv' := [(0, (3, 0)), (1, (0, a1)), (2, (0, x89)), (3, (0, x132))]) rfl ?_
                  exact ih109 _ (by omega) x132 V125 ⟨by omega, by omega⟩ hV127 hF129 e130 rfl
                · skip
                  refine pm_iload hC 0 dX11_findOwnSpans_81 rfl ?_
                  refine pm_bipush (v := 12) hC dX11_findOwnSpans_83 (by decide) ?_
                  refine pm_icmp_gt (tgt := 96) hC ⟨by omega, by omega⟩ ⟨by decide, by decide⟩ dX11_findOwnSpans_85 (by decide) (fun c134 => ?_) (fun c134 => ?_)
                  · skip
                    exfalso; omega
                  · skip
                    refine pm_aload_n hC 1 (by decide) dX11_findOwnSpans_88 rfl ?_
                    refine pm_iload_n hC 2 dX11_findOwnSpans_89 rfl ?_
                    refine pm_iload_n hC 4 dX11_findOwnSpans_90 rfl ?_
                    refine pm_iload hC 0 dX11_findOwnSpans_91 rfl ?_
                    refine pm_callV (ci := 11) (as := [(0, a1), (0, x100), (0, (x89 - y113))]) (st := []) hC 0 (c_X11_trySpans_0 a1 x100 (x89 - y113) ⟨by omega, by omega⟩ ⟨by omega, by omega⟩ ⟨by omega, by omega⟩) lm_X11_381 li_X11_trySpans (by decide) (by decide) rfl rfl rfl (by decide) rfl rfl (Nat.le_of_ble_eq_true rfl) ⟨Nat.le_refl _, Or.inl rfl⟩ dX11_findOwnSpans_93 ⟨rfl, hV127⟩ (fun r135 V136 hp137 => ?_)
                    obtain ⟨rfl, hV138, hF139⟩ := hp137
                    change pm_J X 96 [(4, (0, (x89 - y113))), (0, (3, 0)), (1, (0, a1)), (2, (0, x89)), (3, (0, x100))] [] 118 V136
                    have hF140 := pm_fr.tr hF129 hF139 (by decide)
                    have e141 : V136 4 4 = 7 := by rw [hF139 4 (by decide)]; exact e130
                    obtain ⟨x142, ei143⟩ : ∃ y : Int, x100 + 1 = y := ⟨_, rfl⟩
                    refine pm_iinc (y := x142) (lv' := [(3, (0, x142)), (4, (0, (x89 - y113))), (0, (3, 0)), (1, (0, a1)), (2, (0, x89))]) hC 4 dX11_findOwnSpans_96 (by decide) rfl ei143 rfl ?_
                    refine pm_goto (tgt := 41) hC dX11_findOwnSpans_99 (by decide) ?_
                    refine pm_lvsub [2, 3, 4, 0] (lv' := [(0, (3, 0)), (1, (0, a1)), (2, (0, x89)), (3, (0, x142))]) rfl ?_
                    exact ih109 _ (by omega) x142 V136 ⟨by omega, by omega⟩ hV138 hF140 e141 rfl
        refine pm_lvsub [1, 2, 3, 0] (lv' := [(0, (3, 0)), (1, (0, a1)), (2, (0, x89)), (3, (0, (-12)))]) rfl ?_
        exact L106 _ (-12) V91 ⟨by decide, by decide⟩ hV92 hF93 e94 rfl
    refine pm_lvsub [1, 2, 0] (lv' := [(0, (3, 0)), (1, (0, a1)), (2, (0, 1))]) rfl ?_
    exact L95 _ 1 V79 ⟨by decide, by decide⟩ hV81 hF83 e86 rfl
set_option maxHeartbeats 4000000 in
set_option maxRecDepth 100000 in
theorem c_X11_findOwnOdds_0 (a1 : Int) (h0 : 0 ≤ a1 ∧ a1 ≤ 9) : pm_K 6 yX11_findOwnOdds cX11_findOwnOdds 6 (some .int) (fun av V => av = [(3, 0), (0, a1)] ∧ pm_ok 0 90 V) (fun _ V r V' => ∃ y, r = some (0, y) ∧ (0 ≤ y ∧ y ≤ 16) ∧ pm_ok 0 90 V' ∧ pm_fr [0, 73, 74, 75, 76, 77, 79, 80, 81, 82, 84, 85, 86, 87, 88, 89] V V') := by
  refine pm_MT.of (by decide) ⟨Nat.le_refl _, by decide⟩ (fun av V h => by rw [h.1]; exact (by decide : pm_words [(3, 0), (0, 0)] ≤ 6)) ?_
  rintro X av V0 hC - hR ⟨rfl, hV0⟩
  change pm_J X 0 [(0, (3, 0)), (1, (0, a1))] [] 118 V0
  refine pm_aload_n hC 0 (by decide) dX11_findOwnOdds_0 rfl ?_
  have e1 : V0 0 3 = 4 := hV0.one 0 3 (by decide) (by decide) rfl
  refine pm_getf (v := 4) hC 0 fl_X11_24 rfl rfl (by decide) rfl e1 dX11_findOwnOdds_1 ?_
  have e2 : V0 4 2 = 5 := hV0.one 4 2 (by decide) (by decide) rfl
  refine pm_getf (v := 5) hC 4 fl_X11_186 rfl rfl (by decide) rfl e2 dX11_findOwnOdds_4 ?_
  refine pm_iload_n hC 1 dX11_findOwnOdds_7 rfl ?_
  obtain ⟨y3, e4⟩ : ∃ y, V0 5 (a1 : Int).toNat = y := ⟨_, rfl⟩
  have b5 := hV0.get 5 (a1 : Int).toNat (lo := (-30)) (hi := 30) (by decide) (show _ < 10 by omega) rfl
  rw [e4] at b5
  refine pm_iaload (len := 10) (v := y3) hC 5 rfl rfl (by decide) ⟨by omega, by omega⟩ (by decide) e4 dX11_findOwnOdds_8 ?_
  refine pm_istore_n (lv' := [(2, (0, y3)), (0, (3, 0)), (1, (0, a1))]) hC dX11_findOwnOdds_9 (by decide) rfl ?_
  refine pm_aload_n hC 1 (by decide) dX11_findOwnOdds_10 rfl ?_
  refine pm_getf (v := 4) hC 0 fl_X11_24 rfl rfl (by decide) rfl e1 dX11_findOwnOdds_11 ?_
  have e6 : V0 4 3 = 6 := hV0.one 4 3 (by decide) (by decide) rfl
  refine pm_getf (v := 6) hC 4 fl_X11_189 rfl rfl (by decide) rfl e6 dX11_findOwnOdds_14 ?_
  refine pm_iload_n hC 2 dX11_findOwnOdds_17 rfl ?_
  obtain ⟨y7, e8⟩ : ∃ y, V0 6 (a1 : Int).toNat = y := ⟨_, rfl⟩
  have b9 := hV0.get 6 (a1 : Int).toNat (lo := (-30)) (hi := 30) (by decide) (show _ < 10 by omega) rfl
  rw [e8] at b9
  refine pm_iaload (len := 10) (v := y7) hC 6 rfl rfl (by decide) ⟨by omega, by omega⟩ (by decide) e8 dX11_findOwnOdds_18 ?_
  refine pm_istore_n (lv' := [(3, (0, y7)), (2, (0, y3)), (0, (3, 0)), (1, (0, a1))]) hC dX11_findOwnOdds_19 (by decide) rfl ?_
  refine pm_iconst (v := 0) hC dX11_findOwnOdds_20 ?_
  refine pm_istore (lv' := [(4, (0, 0)), (3, (0, y7)), (2, (0, y3)), (0, (3, 0)), (1, (0, a1))]) hC dX11_findOwnOdds_21 (by decide) rfl ?_
  refine pm_aload_n hC 3 (by decide) dX11_findOwnOdds_23 rfl ?_
  refine pm_aload_n hC 3 (by decide) dX11_findOwnOdds_24 rfl ?_
  rcases hV0.get2 0 12 (lo := 84) (hi := 87) (by decide) (by decide) rfl with e10 | e10
  · skip
    refine pm_getf (v := 84) hC 0 fl_X11_93 rfl rfl (by decide) rfl e10 dX11_findOwnOdds_25 ?_
    refine pm_iload_n hC 4 dX11_findOwnOdds_28 rfl ?_
    refine pm_iload_n hC 2 dX11_findOwnOdds_29 rfl ?_
    refine pm_iload_n hC 1 dX11_findOwnOdds_30 rfl ?_
    refine pm_iconst (v := 0) hC dX11_findOwnOdds_31 ?_
    refine pm_callV (ci := 11) (as := [(3, 84), (0, a1), (0, y3), (0, y7), (0, 0)]) (st := []) hC 0 (c_X11_gatherOdds_0_84 a1 y3 y7 0 ⟨by omega, by omega⟩ ⟨by omega, by omega⟩ ⟨by omega, by omega⟩ ⟨by decide, by decide⟩) lm_X11_377 li_X11_gatherOdds (by decide) (by decide) rfl rfl rfl (by decide) rfl rfl (Nat.le_of_ble_eq_true rfl) ⟨Nat.le_refl _, Or.inl rfl⟩ dX11_findOwnOdds_32 ⟨rfl, hV0⟩ (fun r11 V12 hp13 => ?_)
    obtain ⟨rfl, hV14, hF15⟩ := hp13
    change pm_J X 35 [(4, (0, 0)), (3, (0, y7)), (2, (0, y3)), (0, (3, 0)), (1, (0, a1))] [] 118 V12
    have hF16 := pm_fr.tr (pm_fr.rf (ws := [0, 73, 74, 75, 76, 77, 79, 80, 81, 82, 84, 85, 86, 87, 88, 89]) (V := V0)) hF15 (by decide)
    have e17 : V12 0 3 = 4 := by rw [hF15 0 (by decide)]; exact e1
    have e18 : V12 4 2 = 5 := by rw [hF15 4 (by decide)]; exact e2
    have e19 : V12 4 3 = 6 := by rw [hF15 4 (by decide)]; exact e6
    have e20 : V12 0 12 = 84 := by rw [hF15 0 (by decide)]; exact e10
    refine pm_iconst (v := 1) hC dX11_findOwnOdds_35 ?_
    refine pm_istore (lv' := [(5, (0, 1)), (4, (0, 0)), (3, (0, y7)), (2, (0, y3)), (0, (3, 0)), (1, (0, a1))]) hC dX11_findOwnOdds_36 (by decide) rfl ?_
    have L30 : ∀ (N32 : Nat) (x21 : Int) (x23 : Int) (V25 : pm_M), (0 ≤ x21 ∧ x21 ≤ 16) → (1 ≤ x23 ∧ x23 ≤ 60) → pm_ok 0 90 V25 → pm_fr [0, 73, 74, 75, 76, 77, 79, 80, 81, 82, 84, 85, 86, 87, 88, 89] V0 V25 → V25 4 2 = 5 → V25 4 3 = 6 → (Int.toNat (60 - x23)) = N32 → pm_J X 38 [(0, (3, 0)), (1, (0, a1)), (2, (0, y3)), (3, (0, y7)), (4, (0, x21)), (5, (0, x23))] [] 118 V25 := by
      intro N32
      induction N32 using Nat.strongRecOn with
      | _ N32 ih33 =>
      intro x21 x23 V25 b22 b24 hV26 hF27 e28 e29 hm31
      refine pm_iload hC 5 dX11_findOwnOdds_38 rfl ?_
      refine pm_bipush (v := 16) hC dX11_findOwnOdds_40 (by decide) ?_
      refine pm_icmp_gt (tgt := 75) hC ⟨by omega, by omega⟩ ⟨by decide, by decide⟩ dX11_findOwnOdds_42 (by decide) (fun c34 => ?_) (fun c34 => ?_)
      · skip
        refine pm_iload hC 4 dX11_findOwnOdds_75 rfl ?_
        exact pm_iret hC hR pm_nar0 ⟨x21, rfl, ⟨by omega, by omega⟩, hV26, hF27⟩ dX11_findOwnOdds_77
      · skip
        refine pm_aload_n hC 0 (by decide) dX11_findOwnOdds_45 rfl ?_
        refine pm_aload_n hC 0 (by decide) dX11_findOwnOdds_46 rfl ?_
        rcases hV26.get2 0 13 (lo := 84) (hi := 87) (by decide) (by decide) rfl with e35 | e35
        · skip
          refine pm_getf (v := 84) hC 0 fl_X11_97 rfl rfl (by decide) rfl e35 dX11_findOwnOdds_47 ?_
          refine pm_iload_n hC 1 dX11_findOwnOdds_50 rfl ?_
          refine pm_iload_n hC 2 dX11_findOwnOdds_51 rfl ?_
          refine pm_iload_n hC 3 dX11_findOwnOdds_52 rfl ?_
          refine pm_iload hC 5 dX11_findOwnOdds_53 rfl ?_
          refine pm_callV (ci := 11) (as := [(3, 84), (0, a1), (0, y3), (0, y7), (0, x23)]) (st := []) hC 0 (c_X11_gatherOdds_0_84 a1 y3 y7 x23 ⟨by omega, by omega⟩ ⟨by omega, by omega⟩ ⟨by omega, by omega⟩ ⟨by omega, by omega⟩) lm_X11_377 li_X11_gatherOdds (by decide) (by decide) rfl rfl rfl (by decide) rfl rfl (Nat.le_of_ble_eq_true rfl) ⟨Nat.le_refl _, Or.inl rfl⟩ dX11_findOwnOdds_55 ⟨rfl, hV26⟩ (fun r36 V37 hp38 => ?_)
          obtain ⟨rfl, hV39, hF40⟩ := hp38
          change pm_J X 58 [(0, (3, 0)), (1, (0, a1)), (2, (0, y3)), (3, (0, y7)), (4, (0, x21)), (5, (0, x23))] [] 118 V37
          have hF41 := pm_fr.tr hF27 hF40 (by decide)
          have e42 : V37 4 2 = 5 := by rw [hF40 4 (by decide)]; exact e28
          have e43 : V37 4 3 = 6 := by rw [hF40 4 (by decide)]; exact e29
          have e44 : V37 0 13 = 84 := by rw [hF40 0 (by decide)]; exact e35
          refine pm_aload_n hC 0 (by decide) dX11_findOwnOdds_58 rfl ?_
          refine pm_callV (ci := 11) (as := []) (st := []) hC 0 c_X11_keepsTried_0 lm_X11_276 li_X11_keepsTried (by decide) (by decide) rfl rfl rfl (by decide) rfl rfl (Nat.le_of_ble_eq_true rfl) ⟨Nat.le_refl _, Or.inl rfl⟩ dX11_findOwnOdds_59 ⟨rfl, hV39⟩ (fun r45 V46 hp47 => ?_)
          obtain ⟨y48, rfl, b49, hV50, hF51⟩ := hp47
          change pm_J X 62 [(0, (3, 0)), (1, (0, a1)), (2, (0, y3)), (3, (0, y7)), (4, (0, x21)), (5, (0, x23))] [(0, y48)] 118 V46
          have hF52 := pm_fr.tr hF41 hF51 (by decide)
          have e53 : V46 4 2 = 5 := by rw [hF51 4 (by decide)]; exact e42
          have e54 : V46 4 3 = 6 := by rw [hF51 4 (by decide)]; exact e43
          refine pm_if_eq (tgt := 69) hC ⟨by omega, by omega⟩ dX11_findOwnOdds_62 (by decide) (fun c55 => ?_) (fun c55 => ?_)
          · skip
            obtain ⟨x56, ei57⟩ : ∃ y : Int, x23 + 1 = y := ⟨_, rfl⟩
            refine pm_iinc (y := x56) (lv' := [(5, (0, x56)), (0, (3, 0)), (1, (0, a1)), (2, (0, y3)), (3, (0, y7)), (4, (0, x21))]) hC 5 dX11_findOwnOdds_69 (by decide) rfl ei57 rfl ?_
            refine pm_goto (tgt := 38) hC dX11_findOwnOdds_72 (by decide) ?_
            refine pm_lvsub [1, 2, 3, 4, 5, 0] (lv' := [(0, (3, 0)), (1, (0, a1)), (2, (0, y3)), (3, (0, y7)), (4, (0, x21)), (5, (0, x56))]) rfl ?_
            exact ih33 _ (by omega) x21 x56 V46 ⟨by omega, by omega⟩ ⟨by omega, by omega⟩ hV50 hF52 e53 e54 rfl
          · skip
            refine pm_iload hC 5 dX11_findOwnOdds_65 rfl ?_
            refine pm_istore (lv' := [(4, (0, x23)), (0, (3, 0)), (1, (0, a1)), (2, (0, y3)), (3, (0, y7)), (5, (0, x23))]) hC dX11_findOwnOdds_67 (by decide) rfl ?_
            obtain ⟨x58, ei59⟩ : ∃ y : Int, x23 + 1 = y := ⟨_, rfl⟩
            refine pm_iinc (y := x58) (lv' := [(5, (0, x58)), (4, (0, x23)), (0, (3, 0)), (1, (0, a1)), (2, (0, y3)), (3, (0, y7))]) hC 5 dX11_findOwnOdds_69 (by decide) rfl ei59 rfl ?_
            refine pm_goto (tgt := 38) hC dX11_findOwnOdds_72 (by decide) ?_
            refine pm_lvsub [2, 3, 4, 5, 1, 0] (lv' := [(0, (3, 0)), (1, (0, a1)), (2, (0, y3)), (3, (0, y7)), (4, (0, x23)), (5, (0, x58))]) rfl ?_
            exact ih33 _ (by omega) x23 x58 V46 ⟨by omega, by omega⟩ ⟨by omega, by omega⟩ hV50 hF52 e53 e54 rfl
        · skip
          refine pm_getf (v := 87) hC 0 fl_X11_97 rfl rfl (by decide) rfl e35 dX11_findOwnOdds_47 ?_
          refine pm_iload_n hC 1 dX11_findOwnOdds_50 rfl ?_
          refine pm_iload_n hC 2 dX11_findOwnOdds_51 rfl ?_
          refine pm_iload_n hC 3 dX11_findOwnOdds_52 rfl ?_
          refine pm_iload hC 5 dX11_findOwnOdds_53 rfl ?_
          refine pm_callV (ci := 11) (as := [(3, 87), (0, a1), (0, y3), (0, y7), (0, x23)]) (st := []) hC 0 (c_X11_gatherOdds_0_87 a1 y3 y7 x23 ⟨by omega, by omega⟩ ⟨by omega, by omega⟩ ⟨by omega, by omega⟩ ⟨by omega, by omega⟩) lm_X11_377 li_X11_gatherOdds (by decide) (by decide) rfl rfl rfl (by decide) rfl rfl (Nat.le_of_ble_eq_true rfl) ⟨Nat.le_refl _, Or.inl rfl⟩ dX11_findOwnOdds_55 ⟨rfl, hV26⟩ (fun r60 V61 hp62 => ?_)
          obtain ⟨rfl, hV63, hF64⟩ := hp62
          change pm_J X 58 [(0, (3, 0)), (1, (0, a1)), (2, (0, y3)), (3, (0, y7)), (4, (0, x21)), (5, (0, x23))] [] 118 V61
          have hF65 := pm_fr.tr hF27 hF64 (by decide)
          have e66 : V61 4 2 = 5 := by rw [hF64 4 (by decide)]; exact e28
          have e67 : V61 4 3 = 6 := by rw [hF64 4 (by decide)]; exact e29
          have e68 : V61 0 13 = 87 := by rw [hF64 0 (by decide)]; exact e35
          refine pm_aload_n hC 0 (by decide) dX11_findOwnOdds_58 rfl ?_
          refine pm_callV (ci := 11) (as := []) (st := []) hC 0 c_X11_keepsTried_0 lm_X11_276 li_X11_keepsTried (by decide) (by decide) rfl rfl rfl (by decide) rfl rfl (Nat.le_of_ble_eq_true rfl) ⟨Nat.le_refl _, Or.inl rfl⟩ dX11_findOwnOdds_59 ⟨rfl, hV63⟩ (fun r69 V70 hp71 => ?_)
          obtain ⟨y72, rfl, b73, hV74, hF75⟩ := hp71
          change pm_J X 62 [(0, (3, 0)), (1, (0, a1)), (2, (0, y3)), (3, (0, y7)), (4, (0, x21)), (5, (0, x23))] [(0, y72)] 118 V70
          have hF76 := pm_fr.tr hF65 hF75 (by decide)
          have e77 : V70 4 2 = 5 := by rw [hF75 4 (by decide)]; exact e66
          have e78 : V70 4 3 = 6 := by rw [hF75 4 (by decide)]; exact e67
          refine pm_if_eq (tgt := 69) hC ⟨by omega, by omega⟩ dX11_findOwnOdds_62 (by decide) (fun c79 => ?_) (fun c79 => ?_)
          · skip
            obtain ⟨x80, ei81⟩ : ∃ y : Int, x23 + 1 = y := ⟨_, rfl⟩
            refine pm_iinc (y := x80) (lv' := [(5, (0, x80)), (0, (3, 0)), (1, (0, a1)), (2, (0, y3)), (3, (0, y7)), (4, (0, x21))]) hC 5 dX11_findOwnOdds_69 (by decide) rfl ei81 rfl ?_
            refine pm_goto (tgt := 38) hC dX11_findOwnOdds_72 (by decide) ?_
            refine pm_lvsub [1, 2, 3, 4, 5, 0] (lv' := [(0, (3, 0)), (1, (0, a1)), (2, (0, y3)), (3, (0, y7)), (4, (0, x21)), (5, (0, x80))]) rfl ?_
            exact ih33 _ (by omega) x21 x80 V70 ⟨by omega, by omega⟩ ⟨by omega, by omega⟩ hV74 hF76 e77 e78 rfl
          · skip
            refine pm_iload hC 5 dX11_findOwnOdds_65 rfl ?_
            refine pm_istore (lv' := [(4, (0, x23)), (0, (3, 0)), (1, (0, a1)), (2, (0, y3)), (3, (0, y7)), (5, (0, x23))]) hC dX11_findOwnOdds_67 (by decide) rfl ?_
            obtain ⟨x82, ei83⟩ : ∃ y : Int, x23 + 1 = y := ⟨_, rfl⟩
            refine pm_iinc (y := x82) (lv' := [(5, (0, x82)), (4, (0, x23)), (0, (3, 0)), (1, (0, a1)), (2, (0, y3)), (3, (0, y7))]) hC 5 dX11_findOwnOdds_69 (by decide) rfl ei83 rfl ?_
            refine pm_goto (tgt := 38) hC dX11_findOwnOdds_72 (by decide) ?_
            refine pm_lvsub [2, 3, 4, 5, 1, 0] (lv' := [(0, (3, 0)), (1, (0, a1)), (2, (0, y3)), (3, (0, y7)), (4, (0, x23)), (5, (0, x82))]) rfl ?_
            exact ih33 _ (by omega) x23 x82 V70 ⟨by omega, by omega⟩ ⟨by omega, by omega⟩ hV74 hF76 e77 e78 rfl
    refine pm_lvsub [4, 5, 3, 2, 1, 0] (lv' := [(0, (3, 0)), (1, (0, a1)), (2, (0, y3)), (3, (0, y7)), (4, (0, 0)), (5, (0, 1))]) rfl ?_
    exact L30 _ 0 1 V12 ⟨by decide, by decide⟩ ⟨by decide, by decide⟩ hV14 hF16 e18 e19 rfl
  · skip
    refine pm_getf (v := 87) hC 0 fl_X11_93 rfl rfl (by decide) rfl e10 dX11_findOwnOdds_25 ?_
    refine pm_iload_n hC 4 dX11_findOwnOdds_28 rfl ?_
    refine pm_iload_n hC 2 dX11_findOwnOdds_29 rfl ?_
    refine pm_iload_n hC 1 dX11_findOwnOdds_30 rfl ?_
    refine pm_iconst (v := 0) hC dX11_findOwnOdds_31 ?_
    refine pm_callV (ci := 11) (as := [(3, 87), (0, a1), (0, y3), (0, y7), (0, 0)]) (st := []) hC 0 (c_X11_gatherOdds_0_87 a1 y3 y7 0 ⟨by omega, by omega⟩ ⟨by omega, by omega⟩ ⟨by omega, by omega⟩ ⟨by decide, by decide⟩) lm_X11_377 li_X11_gatherOdds (by decide) (by decide) rfl rfl rfl (by decide) rfl rfl (Nat.le_of_ble_eq_true rfl) ⟨Nat.le_refl _, Or.inl rfl⟩ dX11_findOwnOdds_32 ⟨rfl, hV0⟩ (fun r84 V85 hp86 => ?_)
    obtain ⟨rfl, hV87, hF88⟩ := hp86
    change pm_J X 35 [(4, (0, 0)), (3, (0, y7)), (2, (0, y3)), (0, (3, 0)), (1, (0, a1))] [] 118 V85
    have hF89 := pm_fr.tr (pm_fr.rf (ws := [0, 73, 74, 75, 76, 77, 79, 80, 81, 82, 84, 85, 86, 87, 88, 89]) (V := V0)) hF88 (by decide)
    have e90 : V85 0 3 = 4 := by rw [hF88 0 (by decide)]; exact e1
    have e91 : V85 4 2 = 5 := by rw [hF88 4 (by decide)]; exact e2
    have e92 : V85 4 3 = 6 := by rw [hF88 4 (by decide)]; exact e6
    have e93 : V85 0 12 = 87 := by rw [hF88 0 (by decide)]; exact e10
    refine pm_iconst (v := 1) hC dX11_findOwnOdds_35 ?_
    refine pm_istore (lv' := [(5, (0, 1)), (4, (0, 0)), (3, (0, y7)), (2, (0, y3)), (0, (3, 0)), (1, (0, a1))]) hC dX11_findOwnOdds_36 (by decide) rfl ?_
    have L103 : ∀ (N105 : Nat) (x94 : Int) (x96 : Int) (V98 : pm_M), (0 ≤ x94 ∧ x94 ≤ 16) → (1 ≤ x96 ∧ x96 ≤ 60) → pm_ok 0 90 V98 → pm_fr [0, 73, 74, 75, 76, 77, 79, 80, 81, 82, 84, 85, 86, 87, 88, 89] V0 V98 → V98 4 2 = 5 → V98 4 3 = 6 → (Int.toNat (60 - x96)) = N105 → pm_J X 38 [(0, (3, 0)), (1, (0, a1)), (2, (0, y3)), (3, (0, y7)), (4, (0, x94)), (5, (0, x96))] [] 118 V98 := by
      intro N105
      induction N105 using Nat.strongRecOn with
      | _ N105 ih106 =>
      intro x94 x96 V98 b95 b97 hV99 hF100 e101 e102 hm104
      refine pm_iload hC 5 dX11_findOwnOdds_38 rfl ?_
      refine pm_bipush (v := 16) hC dX11_findOwnOdds_40 (by decide) ?_
      refine pm_icmp_gt (tgt := 75) hC ⟨by omega, by omega⟩ ⟨by decide, by decide⟩ dX11_findOwnOdds_42 (by decide) (fun c107 => ?_) (fun c107 => ?_)
      · skip
        refine pm_iload hC 4 dX11_findOwnOdds_75 rfl ?_
        exact pm_iret hC hR pm_nar0 ⟨x94, rfl, ⟨by omega, by omega⟩, hV99, hF100⟩ dX11_findOwnOdds_77
      · skip
        refine pm_aload_n hC 0 (by decide) dX11_findOwnOdds_45 rfl ?_
        refine pm_aload_n hC 0 (by decide) dX11_findOwnOdds_46 rfl ?_
        rcases hV99.get2 0 13 (lo := 84) (hi := 87) (by decide) (by decide) rfl with e108 | e108
        · skip
          refine pm_getf (v := 84) hC 0 fl_X11_97 rfl rfl (by decide) rfl e108 dX11_findOwnOdds_47 ?_
          refine pm_iload_n hC 1 dX11_findOwnOdds_50 rfl ?_
          refine pm_iload_n hC 2 dX11_findOwnOdds_51 rfl ?_
          refine pm_iload_n hC 3 dX11_findOwnOdds_52 rfl ?_
          refine pm_iload hC 5 dX11_findOwnOdds_53 rfl ?_
          refine pm_callV (ci := 11) (as := [(3, 84), (0, a1), (0, y3), (0, y7), (0, x96)]) (st := []) hC 0 (c_X11_gatherOdds_0_84 a1 y3 y7 x96 ⟨by omega, by omega⟩ ⟨by omega, by omega⟩ ⟨by omega, by omega⟩ ⟨by omega, by omega⟩) lm_X11_377 li_X11_gatherOdds (by decide) (by decide) rfl rfl rfl (by decide) rfl rfl (Nat.le_of_ble_eq_true rfl) ⟨Nat.le_refl _, Or.inl rfl⟩ dX11_findOwnOdds_55 ⟨rfl, hV99⟩ (fun r109 V110 hp111 => ?_)
          obtain ⟨rfl, hV112, hF113⟩ := hp111
          change pm_J X 58 [(0, (3, 0)), (1, (0, a1)), (2, (0, y3)), (3, (0, y7)), (4, (0, x94)), (5, (0, x96))] [] 118 V110
          have hF114 := pm_fr.tr hF100 hF113 (by decide)
          have e115 : V110 4 2 = 5 := by rw [hF113 4 (by decide)]; exact e101
          have e116 : V110 4 3 = 6 := by rw [hF113 4 (by decide)]; exact e102
          have e117 : V110 0 13 = 84 := by rw [hF113 0 (by decide)]; exact e108
          refine pm_aload_n hC 0 (by decide) dX11_findOwnOdds_58 rfl ?_
          refine pm_callV (ci := 11) (as := []) (st := []) hC 0 c_X11_keepsTried_0 lm_X11_276 li_X11_keepsTried (by decide) (by decide) rfl rfl rfl (by decide) rfl rfl (Nat.le_of_ble_eq_true rfl) ⟨Nat.le_refl _, Or.inl rfl⟩ dX11_findOwnOdds_59 ⟨rfl, hV112⟩ (fun r118 V119 hp120 => ?_)
          obtain ⟨y121, rfl, b122, hV123, hF124⟩ := hp120
          change pm_J X 62 [(0, (3, 0)), (1, (0, a1)), (2, (0, y3)), (3, (0, y7)), (4, (0, x94)), (5, (0, x96))] [(0, y121)] 118 V119
          have hF125 := pm_fr.tr hF114 hF124 (by decide)
          have e126 : V119 4 2 = 5 := by rw [hF124 4 (by decide)]; exact e115
          have e127 : V119 4 3 = 6 := by rw [hF124 4 (by decide)]; exact e116
          refine pm_if_eq (tgt := 69) hC ⟨by omega, by omega⟩ dX11_findOwnOdds_62 (by decide) (fun c128 => ?_) (fun c128 => ?_)
          · skip
            obtain ⟨x129, ei130⟩ : ∃ y : Int, x96 + 1 = y := ⟨_, rfl⟩
            refine pm_iinc (y := x129) (lv' := [(5, (0, x129)), (0, (3, 0)), (1, (0, a1)), (2, (0, y3)), (3, (0, y7)), (4, (0, x94))]) hC 5 dX11_findOwnOdds_69 (by decide) rfl ei130 rfl ?_
            refine pm_goto (tgt := 38) hC dX11_findOwnOdds_72 (by decide) ?_
            refine pm_lvsub [1, 2, 3, 4, 5, 0] (lv' := [(0, (3, 0)), (1, (0, a1)), (2, (0, y3)), (3, (0, y7)), (4, (0, x94)), (5, (0, x129))]) rfl ?_
            exact ih106 _ (by omega) x94 x129 V119 ⟨by omega, by omega⟩ ⟨by omega, by omega⟩ hV123 hF125 e126 e127 rfl
          · skip
            refine pm_iload hC 5 dX11_findOwnOdds_65 rfl ?_
            refine pm_istore (lv' := [(4, (0, x96)), (0, (3, 0)), (1, (0, a1)), (2, (0, y3)), (3, (0, y7)), (5, (0, x96))]) hC dX11_findOwnOdds_67 (by decide) rfl ?_
            obtain ⟨x131, ei132⟩ : ∃ y : Int, x96 + 1 = y := ⟨_, rfl⟩
            refine pm_iinc (y := x131) (lv' := [(5, (0, x131)), (4, (0, x96)), (0, (3, 0)), (1, (0, a1)), (2, (0, y3)), (3, (0, y7))]) hC 5 dX11_findOwnOdds_69 (by decide) rfl ei132 rfl ?_
            refine pm_goto (tgt := 38) hC dX11_findOwnOdds_72 (by decide) ?_
            refine pm_lvsub [2, 3, 4, 5, 1, 0] (lv' := [(0, (3, 0)), (1, (0, a1)), (2, (0, y3)), (3, (0, y7)), (4, (0, x96)), (5, (0, x131))]) rfl ?_
            exact ih106 _ (by omega) x96 x131 V119 ⟨by omega, by omega⟩ ⟨by omega, by omega⟩ hV123 hF125 e126 e127 rfl
        · skip
          refine pm_getf (v := 87) hC 0 fl_X11_97 rfl rfl (by decide) rfl e108 dX11_findOwnOdds_47 ?_
          refine pm_iload_n hC 1 dX11_findOwnOdds_50 rfl ?_
          refine pm_iload_n hC 2 dX11_findOwnOdds_51 rfl ?_
          refine pm_iload_n hC 3 dX11_findOwnOdds_52 rfl ?_
          refine pm_iload hC 5 dX11_findOwnOdds_53 rfl ?_
          refine pm_callV (ci := 11) (as := [(3, 87), (0, a1), (0, y3), (0, y7), (0, x96)]) (st := []) hC 0 (c_X11_gatherOdds_0_87 a1 y3 y7 x96 ⟨by omega, by omega⟩ ⟨by omega, by omega⟩ ⟨by omega, by omega⟩ ⟨by omega, by omega⟩) lm_X11_377 li_X11_gatherOdds (by decide) (by decide) rfl rfl rfl (by decide) rfl rfl (Nat.le_of_ble_eq_true rfl) ⟨Nat.le_refl _, Or.inl rfl⟩ dX11_findOwnOdds_55 ⟨rfl, hV99⟩ (fun r133 V134 hp135 => ?_)
          obtain ⟨rfl, hV136, hF137⟩ := hp135
          change pm_J X 58 [(0, (3, 0)), (1, (0, a1)), (2, (0, y3)), (3, (0, y7)), (4, (0, x94)), (5, (0, x96))] [] 118 V134
          have hF138 := pm_fr.tr hF100 hF137 (by decide)
          have e139 : V134 4 2 = 5 := by rw [hF137 4 (by decide)]; exact e101
          have e140 : V134 4 3 = 6 := by rw [hF137 4 (by decide)]; exact e102
          have e141 : V134 0 13 = 87 := by rw [hF137 0 (by decide)]; exact e108
          refine pm_aload_n hC 0 (by decide) dX11_findOwnOdds_58 rfl ?_
          refine pm_callV (ci := 11) (as := []) (st := []) hC 0 c_X11_keepsTried_0 lm_X11_276 li_X11_keepsTried (by decide) (by decide) rfl rfl rfl (by decide) rfl rfl (Nat.le_of_ble_eq_true rfl) ⟨Nat.le_refl _, Or.inl rfl⟩ dX11_findOwnOdds_59 ⟨rfl, hV136⟩ (fun r142 V143 hp144 => ?_)
          obtain ⟨y145, rfl, b146, hV147, hF148⟩ := hp144
          change pm_J X 62 [(0, (3, 0)), (1, (0, a1)), (2, (0, y3)), (3, (0, y7)), (4, (0, x94)), (5, (0, x96))] [(0, y145)] 118 V143
          have hF149 := pm_fr.tr hF138 hF148 (by decide)
          have e150 : V143 4 2 = 5 := by rw [hF148 4 (by decide)]; exact e139
          have e151 : V143 4 3 = 6 := by rw [hF148 4 (by decide)]; exact e140
          refine pm_if_eq (tgt := 69) hC ⟨by omega, by omega⟩ dX11_findOwnOdds_62 (by decide) (fun c152 => ?_) (fun c152 => ?_)
          · skip
            obtain ⟨x153, ei154⟩ : ∃ y : Int, x96 + 1 = y := ⟨_, rfl⟩
            refine pm_iinc (y := x153) (lv' := [(5, (0, x153)), (0, (3, 0)), (1, (0, a1)), (2, (0, y3)), (3, (0, y7)), (4, (0, x94))]) hC 5 dX11_findOwnOdds_69 (by decide) rfl ei154 rfl ?_
            refine pm_goto (tgt := 38) hC dX11_findOwnOdds_72 (by decide) ?_
            refine pm_lvsub [1, 2, 3, 4, 5, 0] (lv' := [(0, (3, 0)), (1, (0, a1)), (2, (0, y3)), (3, (0, y7)), (4, (0, x94)), (5, (0, x153))]) rfl ?_
            exact ih106 _ (by omega) x94 x153 V143 ⟨by omega, by omega⟩ ⟨by omega, by omega⟩ hV147 hF149 e150 e151 rfl
          · skip
            refine pm_iload hC 5 dX11_findOwnOdds_65 rfl ?_
            refine pm_istore (lv' := [(4, (0, x96)), (0, (3, 0)), (1, (0, a1)), (2, (0, y3)), (3, (0, y7)), (5, (0, x96))]) hC dX11_findOwnOdds_67 (by decide) rfl ?_
            obtain ⟨x155, ei156⟩ : ∃ y : Int, x96 + 1 = y := ⟨_, rfl⟩
            refine pm_iinc (y := x155) (lv' := [(5, (0, x155)), (4, (0, x96)), (0, (3, 0)), (1, (0, a1)), (2, (0, y3)), (3, (0, y7))]) hC 5 dX11_findOwnOdds_69 (by decide) rfl ei156 rfl ?_
            refine pm_goto (tgt := 38) hC dX11_findOwnOdds_72 (by decide) ?_
            refine pm_lvsub [2, 3, 4, 5, 1, 0] (lv' := [(0, (3, 0)), (1, (0, a1)), (2, (0, y3)), (3, (0, y7)), (4, (0, x96)), (5, (0, x155))]) rfl ?_
            exact ih106 _ (by omega) x96 x155 V143 ⟨by omega, by omega⟩ ⟨by omega, by omega⟩ hV147 hF149 e150 e151 rfl
    refine pm_lvsub [4, 5, 3, 2, 1, 0] (lv' := [(0, (3, 0)), (1, (0, a1)), (2, (0, y3)), (3, (0, y7)), (4, (0, 0)), (5, (0, 1))]) rfl ?_
    exact L103 _ 0 1 V85 ⟨by decide, by decide⟩ ⟨by decide, by decide⟩ hV87 hF89 e91 e92 rfl
set_option maxHeartbeats 4000000 in
set_option maxRecDepth 100000 in
theorem c_X11_own_0 (a1 a2 : Int) (h0 : (-2147483648) ≤ a1 ∧ a1 ≤ 2147483647) (h1 : (-2147483648) ≤ a2 ∧ a2 ≤ 2147483647) : pm_K 8 yX11_own cX11_own 3 (some .int) (fun av V => av = [(3, 0), (0, a1), (0, a2)] ∧ pm_ok 0 90 V) (fun _ V r V' => ∃ y, r = some (0, y) ∧ ((-2147483648) ≤ y ∧ y ≤ 2147483647) ∧ pm_ok 0 90 V' ∧ pm_fr [0, 73, 74, 75, 76, 77, 79, 80, 81, 82, 84, 85, 86, 87, 88, 89] V V') := by
  refine pm_MT.of (by decide) ⟨Nat.le_refl _, by decide⟩ (fun av V h => by rw [h.1]; exact (by decide : pm_words [(3, 0), (0, 0), (0, 0)] ≤ 3)) ?_
  rintro X av V0 hC - hR ⟨rfl, hV0⟩
  change pm_J X 0 [(0, (3, 0)), (1, (0, a1)), (2, (0, a2))] [] 118 V0
  refine pm_aload_n hC 0 (by decide) dX11_own_0 rfl ?_
  refine pm_iload_n hC 1 dX11_own_1 rfl ?_
  refine pm_callV (ci := 11) (as := [(0, a1)]) (st := []) hC 0 (c_X11_isPerson_0 a1 ⟨by omega, by omega⟩) lm_X11_183 li_X11_isPerson (by decide) (by decide) rfl rfl rfl (by decide) rfl rfl (Nat.le_of_ble_eq_true rfl) ⟨Nat.le_refl _, Or.inl rfl⟩ dX11_own_2 ⟨rfl, hV0⟩ (fun r1 V2 hp3 => ?_)
  obtain ⟨y4, rfl, b5, rfl⟩ := hp3
  change pm_J X 5 [(0, (3, 0)), (1, (0, a1)), (2, (0, a2))] [(0, y4)] 118 V0
  refine pm_if_eq (tgt := 17) hC ⟨by omega, by omega⟩ dX11_own_5 (by decide) (fun c6 => ?_) (fun c6 => ?_)
  · skip
    refine pm_ldc (v := (-2147483648)) hC 3153 dX11_own_17 (by decide +kernel) ?_
    exact pm_iret hC hR pm_nar0 ⟨(-2147483648), rfl, ⟨by omega, by omega⟩, hV0, (pm_fr.rf (ws := [0, 73, 74, 75, 76, 77, 79, 80, 81, 82, 84, 85, 86, 87, 88, 89]) (V := V0))⟩ dX11_own_19
  · skip
    refine pm_iload_n hC 2 dX11_own_8 rfl ?_
    refine pm_if_lt (tgt := 17) hC ⟨by omega, by omega⟩ dX11_own_9 (by decide) (fun c7 => ?_) (fun c7 => ?_)
    · skip
      refine pm_ldc (v := (-2147483648)) hC 3153 dX11_own_17 (by decide +kernel) ?_
      exact pm_iret hC hR pm_nar0 ⟨(-2147483648), rfl, ⟨by omega, by omega⟩, hV0, (pm_fr.rf (ws := [0, 73, 74, 75, 76, 77, 79, 80, 81, 82, 84, 85, 86, 87, 88, 89]) (V := V0))⟩ dX11_own_19
    · skip
      refine pm_iload_n hC 2 dX11_own_12 rfl ?_
      refine pm_iconst (v := 2) hC dX11_own_13 ?_
      refine pm_icmp_le (tgt := 20) hC ⟨by omega, by omega⟩ ⟨by decide, by decide⟩ dX11_own_14 (by decide) (fun c8 => ?_) (fun c8 => ?_)
      · skip
        refine pm_iload_n hC 2 dX11_own_20 rfl ?_
        refine pm_iconst (v := 2) hC dX11_own_21 ?_
        refine pm_icmp_ne (tgt := 31) hC ⟨by omega, by omega⟩ ⟨by decide, by decide⟩ dX11_own_22 (by decide) (fun c9 => ?_) (fun c9 => ?_)
        · skip
          refine pm_aload_n hC 0 (by decide) dX11_own_31 rfl ?_
          refine pm_iload_n hC 1 dX11_own_32 rfl ?_
          refine pm_callV (ci := 11) (as := [(0, a1)]) (st := []) hC 0 (c_X11_findOwnSpans_0 a1 ⟨by omega, by omega⟩) lm_X11_282 li_X11_findOwnSpans (by decide) (by decide) rfl rfl rfl (by decide) rfl rfl (Nat.le_of_ble_eq_true rfl) ⟨Nat.le_refl _, Or.inl rfl⟩ dX11_own_33 ⟨rfl, hV0⟩ (fun r10 V11 hp12 => ?_)
          obtain ⟨rfl, hV13, hF14⟩ := hp12
          change pm_J X 36 [(0, (3, 0)), (1, (0, a1)), (2, (0, a2))] [] 118 V11
          have hF15 := pm_fr.tr (pm_fr.rf (ws := [0, 73, 74, 75, 76, 77, 79, 80, 81, 82, 84, 85, 86, 87, 88, 89]) (V := V0)) hF14 (by decide)
          refine pm_iload_n hC 2 dX11_own_36 rfl ?_
          refine pm_if_ne (tgt := 47) hC ⟨by omega, by omega⟩ dX11_own_37 (by decide) (fun c16 => ?_) (fun c16 => ?_)
          · skip
            refine pm_aload_n hC 0 (by decide) dX11_own_47 rfl ?_
            obtain ⟨y17, e18⟩ : ∃ y, V11 0 15 = y := ⟨_, rfl⟩
            have b19 := hV13.get 0 15 (lo := (-2147483648)) (hi := 2147483647) (by decide) (by decide) rfl
            rw [e18] at b19
            refine pm_getf (v := y17) hC 0 fl_X11_104 rfl rfl (by decide) rfl e18 dX11_own_48 ?_
            exact pm_iret hC hR pm_nar0 ⟨y17, rfl, ⟨by omega, by omega⟩, hV13, hF15⟩ dX11_own_51
          · skip
            refine pm_aload_n hC 0 (by decide) dX11_own_40 rfl ?_
            obtain ⟨y20, e21⟩ : ∃ y, V11 0 14 = y := ⟨_, rfl⟩
            have b22 := hV13.get 0 14 (lo := (-2147483648)) (hi := 2147483647) (by decide) (by decide) rfl
            rw [e21] at b22
            refine pm_getf (v := y20) hC 0 fl_X11_100 rfl rfl (by decide) rfl e21 dX11_own_41 ?_
            refine pm_goto (tgt := 51) hC dX11_own_44 (by decide) ?_
            exact pm_iret hC hR pm_nar0 ⟨y20, rfl, ⟨by omega, by omega⟩, hV13, hF15⟩ dX11_own_51
        · skip
          refine pm_aload_n hC 0 (by decide) dX11_own_25 rfl ?_
          refine pm_iload_n hC 1 dX11_own_26 rfl ?_
          refine pm_callV (ci := 11) (as := [(0, a1)]) (st := []) hC 0 (c_X11_findOwnOdds_0 a1 ⟨by omega, by omega⟩) lm_X11_279 li_X11_findOwnOdds (by decide) (by decide) rfl rfl rfl (by decide) rfl rfl (Nat.le_of_ble_eq_true rfl) ⟨Nat.le_refl _, Or.inl rfl⟩ dX11_own_27 ⟨rfl, hV0⟩ (fun r23 V24 hp25 => ?_)
          obtain ⟨y26, rfl, b27, hV28, hF29⟩ := hp25
          change pm_J X 30 [(0, (3, 0)), (1, (0, a1)), (2, (0, a2))] [(0, y26)] 118 V24
          have hF30 := pm_fr.tr (pm_fr.rf (ws := [0, 73, 74, 75, 76, 77, 79, 80, 81, 82, 84, 85, 86, 87, 88, 89]) (V := V0)) hF29 (by decide)
          exact pm_iret hC hR pm_nar0 ⟨y26, rfl, ⟨by omega, by omega⟩, hV28, hF30⟩ dX11_own_30
      · skip
        refine pm_ldc (v := (-2147483648)) hC 3153 dX11_own_17 (by decide +kernel) ?_
        exact pm_iret hC hR pm_nar0 ⟨(-2147483648), rfl, ⟨by omega, by omega⟩, hV0, (pm_fr.rf (ws := [0, 73, 74, 75, 76, 77, 79, 80, 81, 82, 84, 85, 86, 87, 88, 89]) (V := V0))⟩ dX11_own_19
set_option maxHeartbeats 4000000 in
set_option maxRecDepth 100000 in
theorem c_X11_isLandOrAll (a1 : Int) (h0 : (-2147483648) ≤ a1 ∧ a1 ≤ 2147483647) : pm_K 1 yX11_isLandOrAll cX11_isLandOrAll 1 (some .boolean) (fun av V => av = [(0, a1)] ∧ pm_ok 0 90 V) (fun _ V r V' => ∃ y, r = some (0, y) ∧ (0 ≤ y ∧ y ≤ 1 ∧ (y = 1 → ((-1) ≤ a1 ∧ a1 ≤ 3))) ∧ V = V') := by
  refine pm_MT.of (by decide) ⟨Nat.le_refl _, by decide⟩ (fun av V h => by rw [h.1]; exact (by decide : pm_words [(0, 0)] ≤ 1)) ?_
  rintro X av V0 hC - hR ⟨rfl, hV0⟩
  change pm_J X 0 [(0, (0, a1))] [] 118 V0
  refine pm_iload_n hC 0 dX11_isLandOrAll_0 rfl ?_
  refine pm_iconst (v := (-1)) hC dX11_isLandOrAll_1 ?_
  refine pm_icmp_lt (tgt := 14) hC ⟨by omega, by omega⟩ ⟨by decide, by decide⟩ dX11_isLandOrAll_2 (by decide) (fun c1 => ?_) (fun c1 => ?_)
  · skip
    refine pm_iconst (v := 0) hC dX11_isLandOrAll_14 ?_
    exact pm_iret hC hR (pm_narZ (by omega)) ⟨0, rfl, ⟨by omega, by omega, by omega⟩, rfl⟩ dX11_isLandOrAll_15
  · skip
    refine pm_iload_n hC 0 dX11_isLandOrAll_5 rfl ?_
    refine pm_iconst (v := 3) hC dX11_isLandOrAll_6 ?_
    refine pm_icmp_gt (tgt := 14) hC ⟨by omega, by omega⟩ ⟨by decide, by decide⟩ dX11_isLandOrAll_7 (by decide) (fun c2 => ?_) (fun c2 => ?_)
    · skip
      refine pm_iconst (v := 0) hC dX11_isLandOrAll_14 ?_
      exact pm_iret hC hR (pm_narZ (by omega)) ⟨0, rfl, ⟨by omega, by omega, by omega⟩, rfl⟩ dX11_isLandOrAll_15
    · skip
      refine pm_iconst (v := 1) hC dX11_isLandOrAll_10 ?_
      refine pm_goto (tgt := 15) hC dX11_isLandOrAll_11 (by decide) ?_
      exact pm_iret hC hR (pm_narZ (by omega)) ⟨1, rfl, ⟨by omega, by omega, by omega⟩, rfl⟩ dX11_isLandOrAll_15
set_option maxHeartbeats 4000000 in
set_option maxRecDepth 100000 in
theorem c_X11_isOfLand_0 (a1 a2 : Int) (h0 : 0 ≤ a1 ∧ a1 ≤ 59) (h1 : (-2147483648) ≤ a2 ∧ a2 ≤ 2147483647) : pm_K 1 yX11_isOfLand cX11_isOfLand 3 (some .boolean) (fun av V => av = [(3, 0), (0, a1), (0, a2)] ∧ pm_ok 0 90 V) (fun _ V r V' => ∃ y, r = some (0, y) ∧ (0 ≤ y ∧ y ≤ 1) ∧ V = V') := by
  refine pm_MT.of (by decide) ⟨Nat.le_refl _, by decide⟩ (fun av V h => by rw [h.1]; exact (by decide : pm_words [(3, 0), (0, 0), (0, 0)] ≤ 3)) ?_
  rintro X av V0 hC - hR ⟨rfl, hV0⟩
  change pm_J X 0 [(0, (3, 0)), (1, (0, a1)), (2, (0, a2))] [] 118 V0
  refine pm_iload_n hC 2 dX11_isOfLand_0 rfl ?_
  refine pm_iconst (v := (-1)) hC dX11_isOfLand_1 ?_
  refine pm_icmp_eq (tgt := 29) hC ⟨by omega, by omega⟩ ⟨by decide, by decide⟩ dX11_isOfLand_2 (by decide) (fun c1 => ?_) (fun c1 => ?_)
  · skip
    refine pm_iconst (v := 1) hC dX11_isOfLand_29 ?_
    refine pm_goto (tgt := 34) hC dX11_isOfLand_30 (by decide) ?_
    exact pm_iret hC hR (pm_narZ (by omega)) ⟨1, rfl, ⟨by omega, by omega⟩, rfl⟩ dX11_isOfLand_34
  · skip
    refine pm_aload_n hC 0 (by decide) dX11_isOfLand_5 rfl ?_
    have e2 : V0 0 3 = 4 := hV0.one 0 3 (by decide) (by decide) rfl
    refine pm_getf (v := 4) hC 0 fl_X11_24 rfl rfl (by decide) rfl e2 dX11_isOfLand_6 ?_
    have e3 : V0 4 5 = 8 := hV0.one 4 5 (by decide) (by decide) rfl
    refine pm_getf (v := 8) hC 4 fl_X11_194 rfl rfl (by decide) rfl e3 dX11_isOfLand_9 ?_
    refine pm_aload_n hC 0 (by decide) dX11_isOfLand_12 rfl ?_
    refine pm_getf (v := 4) hC 0 fl_X11_24 rfl rfl (by decide) rfl e2 dX11_isOfLand_13 ?_
    have e4 : V0 4 7 = 9 := hV0.one 4 7 (by decide) (by decide) rfl
    refine pm_getf (v := 9) hC 4 fl_X11_243 rfl rfl (by decide) rfl e4 dX11_isOfLand_16 ?_
    refine pm_iload_n hC 1 dX11_isOfLand_19 rfl ?_
    obtain ⟨y5, e6⟩ : ∃ y, V0 9 (a1 : Int).toNat = y := ⟨_, rfl⟩
    have b7 := hV0.get1 9 (a1 : Int).toNat (lo := 0) (hi := 999) (by decide) (show _ < 60 by omega) rfl
    rw [e6] at b7
    refine pm_iaload (len := 60) (v := y5) hC 9 rfl rfl (by decide) ⟨by omega, by omega⟩ (by decide) e6 dX11_isOfLand_20 ?_
    refine pm_bipush (v := 100) hC dX11_isOfLand_21 (by decide) ?_
    refine pm_idiv hC ⟨by omega, by omega, by omega⟩ ⟨by decide, by decide, by decide⟩ dX11_isOfLand_23 ?_
    obtain ⟨y8, e9⟩ : ∃ y, V0 8 ((y5 / 100) : Int).toNat = y := ⟨_, rfl⟩
    have b10 := hV0.get 8 ((y5 / 100) : Int).toNat (lo := 0) (hi := 3) (by decide) (show _ < 10 by omega) rfl
    rw [e9] at b10
    refine pm_iaload (len := 10) (v := y8) hC 8 rfl rfl (by decide) ⟨by omega, by omega⟩ (by decide) e9 dX11_isOfLand_24 ?_
    refine pm_iload_n hC 2 dX11_isOfLand_25 rfl ?_
    refine pm_icmp_ne (tgt := 33) hC ⟨by omega, by omega⟩ ⟨by omega, by omega⟩ dX11_isOfLand_26 (by decide) (fun c11 => ?_) (fun c11 => ?_)
    · skip
      refine pm_iconst (v := 0) hC dX11_isOfLand_33 ?_
      exact pm_iret hC hR (pm_narZ (by omega)) ⟨0, rfl, ⟨by omega, by omega⟩, rfl⟩ dX11_isOfLand_34
    · skip
      refine pm_iconst (v := 1) hC dX11_isOfLand_29 ?_
      refine pm_goto (tgt := 34) hC dX11_isOfLand_30 (by decide) ?_
      exact pm_iret hC hR (pm_narZ (by omega)) ⟨1, rfl, ⟨by omega, by omega⟩, rfl⟩ dX11_isOfLand_34
set_option maxHeartbeats 4000000 in
set_option maxRecDepth 100000 in
theorem c_X11_countOfLand_0 (a1 : Int) (h0 : (-2147483648) ≤ a1 ∧ a1 ≤ 2147483647) : pm_K 2 yX11_countOfLand cX11_countOfLand 4 (some .int) (fun av V => av = [(3, 0), (0, a1)] ∧ pm_ok 0 90 V) (fun _ V r V' => ∃ y, r = some (0, y) ∧ (0 ≤ y ∧ y ≤ 60) ∧ V = V') := by
  refine pm_MT.of (by decide) ⟨Nat.le_refl _, by decide⟩ (fun av V h => by rw [h.1]; exact (by decide : pm_words [(3, 0), (0, 0)] ≤ 4)) ?_
  rintro X av V0 hC - hR ⟨rfl, hV0⟩
  change pm_J X 0 [(0, (3, 0)), (1, (0, a1))] [] 118 V0
  refine pm_iconst (v := 0) hC dX11_countOfLand_0 ?_
  refine pm_istore_n (lv' := [(2, (0, 0)), (0, (3, 0)), (1, (0, a1))]) hC dX11_countOfLand_1 (by decide) rfl ?_
  refine pm_iconst (v := 0) hC dX11_countOfLand_2 ?_
  refine pm_istore_n (lv' := [(3, (0, 0)), (2, (0, 0)), (0, (3, 0)), (1, (0, a1))]) hC dX11_countOfLand_3 (by decide) rfl ?_
  have L6 : ∀ (N8 : Nat) (x1 : Int) (x3 : Int), (0 ≤ x1 ∧ x1 ≤ 60) → (0 ≤ x3 ∧ x3 ≤ 60) → (x1 ≤ x3) → (Int.toNat (60 - x3)) = N8 → pm_J X 4 [(0, (3, 0)), (1, (0, a1)), (2, (0, x1)), (3, (0, x3))] [] 118 V0 := by
    intro N8
    induction N8 using Nat.strongRecOn with
    | _ N8 ih9 =>
    intro x1 x3 b2 b4 b5 hm7
    refine pm_iload_n hC 3 dX11_countOfLand_4 rfl ?_
    refine pm_aload_n hC 0 (by decide) dX11_countOfLand_5 rfl ?_
    have e10 : V0 0 3 = 4 := hV0.one 0 3 (by decide) (by decide) rfl
    refine pm_getf (v := 4) hC 0 fl_X11_24 rfl rfl (by decide) rfl e10 dX11_countOfLand_6 ?_
    obtain ⟨y11, e12⟩ : ∃ y, V0 4 6 = y := ⟨_, rfl⟩
    have b13 := hV0.get 4 6 (lo := 0) (hi := 60) (by decide) (by decide) rfl
    rw [e12] at b13
    refine pm_getf (v := y11) hC 4 fl_X11_162 rfl rfl (by decide) rfl e12 dX11_countOfLand_9 ?_
    refine pm_icmp_ge (tgt := 33) hC ⟨by omega, by omega⟩ ⟨by omega, by omega⟩ dX11_countOfLand_12 (by decide) (fun c14 => ?_) (fun c14 => ?_)
    · skip
      refine pm_iload_n hC 2 dX11_countOfLand_33 rfl ?_
      exact pm_iret hC hR pm_nar0 ⟨x1, rfl, ⟨by omega, by omega⟩, rfl⟩ dX11_countOfLand_34
    · skip
      refine pm_aload_n hC 0 (by decide) dX11_countOfLand_15 rfl ?_
      refine pm_iload_n hC 3 dX11_countOfLand_16 rfl ?_
      refine pm_iload_n hC 1 dX11_countOfLand_17 rfl ?_
      refine pm_callV (ci := 11) (as := [(0, x3), (0, a1)]) (st := []) hC 0 (c_X11_isOfLand_0 x3 a1 ⟨by omega, by omega⟩ ⟨by omega, by omega⟩) lm_X11_291 li_X11_isOfLand (by decide) (by decide) rfl rfl rfl (by decide) rfl rfl (Nat.le_of_ble_eq_true rfl) ⟨Nat.le_refl _, Or.inl rfl⟩ dX11_countOfLand_18 ⟨rfl, hV0⟩ (fun r15 V16 hp17 => ?_)
      obtain ⟨y18, rfl, b19, rfl⟩ := hp17
      change pm_J X 21 [(0, (3, 0)), (1, (0, a1)), (2, (0, x1)), (3, (0, x3))] [(0, y18)] 118 V0
      refine pm_if_eq (tgt := 27) hC ⟨by omega, by omega⟩ dX11_countOfLand_21 (by decide) (fun c20 => ?_) (fun c20 => ?_)
      · skip
        obtain ⟨x21, ei22⟩ : ∃ y : Int, x3 + 1 = y := ⟨_, rfl⟩
        refine pm_iinc (y := x21) (lv' := [(3, (0, x21)), (0, (3, 0)), (1, (0, a1)), (2, (0, x1))]) hC 3 dX11_countOfLand_27 (by decide) rfl ei22 rfl ?_
        refine pm_goto (tgt := 4) hC dX11_countOfLand_30 (by decide) ?_
        refine pm_lvsub [1, 2, 3, 0] (lv' := [(0, (3, 0)), (1, (0, a1)), (2, (0, x1)), (3, (0, x21))]) rfl ?_
        exact ih9 _ (by omega) x1 x21 ⟨by omega, by omega⟩ ⟨by omega, by omega⟩ (by omega) rfl
      · skip
        obtain ⟨x23, ei24⟩ : ∃ y : Int, x1 + 1 = y := ⟨_, rfl⟩
        refine pm_iinc (y := x23) (lv' := [(2, (0, x23)), (0, (3, 0)), (1, (0, a1)), (3, (0, x3))]) hC 2 dX11_countOfLand_24 (by decide) rfl ei24 rfl ?_
        obtain ⟨x25, ei26⟩ : ∃ y : Int, x3 + 1 = y := ⟨_, rfl⟩
        refine pm_iinc (y := x25) (lv' := [(3, (0, x25)), (2, (0, x23)), (0, (3, 0)), (1, (0, a1))]) hC 3 dX11_countOfLand_27 (by decide) rfl ei26 rfl ?_
        refine pm_goto (tgt := 4) hC dX11_countOfLand_30 (by decide) ?_
        refine pm_lvsub [2, 3, 1, 0] (lv' := [(0, (3, 0)), (1, (0, a1)), (2, (0, x23)), (3, (0, x25))]) rfl ?_
        exact ih9 _ (by omega) x23 x25 ⟨by omega, by omega⟩ ⟨by omega, by omega⟩ (by omega) rfl
  refine pm_lvsub [2, 3, 1, 0] (lv' := [(0, (3, 0)), (1, (0, a1)), (2, (0, 0)), (3, (0, 0))]) rfl ?_
  exact L6 _ 0 0 ⟨by decide, by decide⟩ ⟨by decide, by decide⟩ (by omega) rfl
set_option maxHeartbeats 4000000 in
set_option maxRecDepth 100000 in
theorem c_X11_share_0 (a1 a2 : Int) (h0 : (-2147483648) ≤ a1 ∧ a1 ≤ 2147483647) (h1 : (-2147483648) ≤ a2 ∧ a2 ≤ 2147483647) : pm_K 3 yX11_share cX11_share 8 (some .int) (fun av V => av = [(3, 0), (0, a1), (0, a2)] ∧ pm_ok 0 90 V) (fun _ V r V' => ∃ y, r = some (0, y) ∧ ((-1) ≤ y ∧ y ≤ 60000) ∧ V = V') := by
  refine pm_MT.of (by decide) ⟨Nat.le_refl _, by decide⟩ (fun av V h => by rw [h.1]; exact (by decide : pm_words [(3, 0), (0, 0), (0, 0)] ≤ 8)) ?_
  rintro X av V0 hC - hR ⟨rfl, hV0⟩
  change pm_J X 0 [(0, (3, 0)), (1, (0, a1)), (2, (0, a2))] [] 118 V0
  refine pm_iload_n hC 1 dX11_share_0 rfl ?_
  refine pm_callS (as := [(0, a1)]) (st := []) hC (c_X11_isLandOrAll a1 ⟨by omega, by omega⟩) lm_X11_285 ls_X11_isLandOrAll (by decide) (by decide) rfl rfl (Nat.le_of_ble_eq_true rfl) ⟨Nat.le_refl _, Or.inl rfl⟩ dX11_share_1 ⟨rfl, hV0⟩ (fun r1 V2 hp3 => ?_)
  obtain ⟨y4, rfl, b5, rfl⟩ := hp3
  change pm_J X 4 [(0, (3, 0)), (1, (0, a1)), (2, (0, a2))] [(0, y4)] 118 V0
  refine pm_if_eq (tgt := 23) hC ⟨by omega, by omega⟩ dX11_share_4 (by decide) (fun c6 => ?_) (fun c6 => ?_)
  · skip
    refine pm_iconst (v := 0) hC dX11_share_23 ?_
    refine pm_istore_n (lv' := [(3, (0, 0)), (0, (3, 0)), (1, (0, a1)), (2, (0, a2))]) hC dX11_share_24 (by decide) rfl ?_
    refine pm_iload_n hC 0 dX11_share_25 rfl ?_
    refine pm_if_eq (tgt := 37) hC ⟨by decide, by decide⟩ dX11_share_26 (by decide) (fun c7 => ?_) (fun c7 => ?_)
    · skip
      refine pm_iconst (v := 0) hC dX11_share_37 ?_
      refine pm_istore (lv' := [(4, (0, 0)), (3, (0, 0)), (0, (3, 0)), (1, (0, a1)), (2, (0, a2))]) hC dX11_share_38 (by decide) rfl ?_
      refine pm_iload hC 0 dX11_share_40 rfl ?_
      refine pm_if_gt (tgt := 47) hC ⟨by decide, by decide⟩ dX11_share_42 (by decide) (fun c8 => ?_) (fun c8 => ?_)
      · skip
        exfalso; omega
      · skip
        refine pm_iconst (v := (-1)) hC dX11_share_45 ?_
        exact pm_iret hC hR pm_nar0 ⟨(-1), rfl, ⟨by omega, by omega⟩, rfl⟩ dX11_share_46
    · skip
      exfalso; omega
  · skip
    refine pm_iload_n hC 2 dX11_share_7 rfl ?_
    refine pm_callS (as := [(0, a2)]) (st := []) hC (c_X11_isKind a2 ⟨by omega, by omega⟩) lm_X11_215 ls_X11_isKind (by decide) (by decide) rfl rfl (Nat.le_of_ble_eq_true rfl) ⟨Nat.le_refl _, Or.inl rfl⟩ dX11_share_8 ⟨rfl, hV0⟩ (fun r9 V10 hp11 => ?_)
    obtain ⟨y12, rfl, b13, rfl⟩ := hp11
    change pm_J X 11 [(0, (3, 0)), (1, (0, a1)), (2, (0, a2))] [(0, y12)] 118 V0
    refine pm_if_ne (tgt := 19) hC ⟨by omega, by omega⟩ dX11_share_11 (by decide) (fun c14 => ?_) (fun c14 => ?_)
    · skip
      refine pm_iconst (v := 1) hC dX11_share_19 ?_
      refine pm_goto (tgt := 24) hC dX11_share_20 (by decide) ?_
      refine pm_istore_n (lv' := [(3, (0, 1)), (0, (3, 0)), (1, (0, a1)), (2, (0, a2))]) hC dX11_share_24 (by decide) rfl ?_
      refine pm_iload_n hC 0 dX11_share_25 rfl ?_
      refine pm_if_eq (tgt := 37) hC ⟨by decide, by decide⟩ dX11_share_26 (by decide) (fun c15 => ?_) (fun c15 => ?_)
      · skip
        exfalso; omega
      · skip
        refine pm_aload_n hC 1 (by decide) dX11_share_29 rfl ?_
        refine pm_iload_n hC 2 dX11_share_30 rfl ?_
        refine pm_callV (ci := 11) (as := [(0, a1)]) (st := []) hC 0 (c_X11_countOfLand_0 a1 ⟨by omega, by omega⟩) lm_X11_288 li_X11_countOfLand (by decide) (by decide) rfl rfl rfl (by decide) rfl rfl (Nat.le_of_ble_eq_true rfl) ⟨Nat.le_refl _, Or.inl rfl⟩ dX11_share_31 ⟨rfl, hV0⟩ (fun r16 V17 hp18 => ?_)
        obtain ⟨y19, rfl, b20, rfl⟩ := hp18
        change pm_J X 34 [(3, (0, 1)), (0, (3, 0)), (1, (0, a1)), (2, (0, a2))] [(0, y19)] 118 V0
        refine pm_goto (tgt := 38) hC dX11_share_34 (by decide) ?_
        refine pm_istore (lv' := [(4, (0, y19)), (3, (0, 1)), (0, (3, 0)), (1, (0, a1)), (2, (0, a2))]) hC dX11_share_38 (by decide) rfl ?_
        refine pm_iload hC 0 dX11_share_40 rfl ?_
        refine pm_if_gt (tgt := 47) hC ⟨by omega, by omega⟩ dX11_share_42 (by decide) (fun c21 => ?_) (fun c21 => ?_)
        · skip
          refine pm_iconst (v := 0) hC dX11_share_47 ?_
          refine pm_istore (lv' := [(5, (0, 0)), (4, (0, y19)), (3, (0, 1)), (0, (3, 0)), (1, (0, a1)), (2, (0, a2))]) hC dX11_share_48 (by decide) rfl ?_
          refine pm_iconst (v := 0) hC dX11_share_50 ?_
          refine pm_istore (lv' := [(6, (0, 0)), (5, (0, 0)), (4, (0, y19)), (3, (0, 1)), (0, (3, 0)), (1, (0, a1)), (2, (0, a2))]) hC dX11_share_51 (by decide) rfl ?_
          have L27 : ∀ (N29 : Nat) (x22 : Int) (x24 : Int), (0 ≤ x22 ∧ x22 ≤ 60) → (0 ≤ x24 ∧ x24 ≤ 60) → (x22 ≤ x24) → (Int.toNat (60 - x24)) = N29 → pm_J X 53 [(0, (3, 0)), (1, (0, a1)), (2, (0, a2)), (3, (0, 1)), (4, (0, y19)), (5, (0, x22)), (6, (0, x24))] [] 118 V0 := by
            intro N29
            induction N29 using Nat.strongRecOn with
            | _ N29 ih30 =>
            intro x22 x24 b23 b25 b26 hm28
            refine pm_iload hC 6 dX11_share_53 rfl ?_
            refine pm_aload_n hC 0 (by decide) dX11_share_55 rfl ?_
            have e31 : V0 0 3 = 4 := hV0.one 0 3 (by decide) (by decide) rfl
            refine pm_getf (v := 4) hC 0 fl_X11_24 rfl rfl (by decide) rfl e31 dX11_share_56 ?_
            obtain ⟨y32, e33⟩ : ∃ y, V0 4 6 = y := ⟨_, rfl⟩
            have b34 := hV0.get 4 6 (lo := 0) (hi := 60) (by decide) (by decide) rfl
            rw [e33] at b34
            refine pm_getf (v := y32) hC 4 fl_X11_162 rfl rfl (by decide) rfl e33 dX11_share_59 ?_
            refine pm_icmp_ge (tgt := 127) hC ⟨by omega, by omega⟩ ⟨by omega, by omega⟩ dX11_share_62 (by decide) (fun c35 => ?_) (fun c35 => ?_)
            · skip
              refine pm_iload hC 5 dX11_share_127 rfl ?_
              refine pm_sipush (v := 1000) hC dX11_share_129 (by decide) ?_
              refine pm_imul hC dX11_share_132 ?_
              refine pm_iload hC 4 dX11_share_133 rfl ?_
              refine pm_idiv hC ⟨by omega, by omega, by omega⟩ ⟨by omega, by omega, by omega⟩ dX11_share_135 ?_
              have b37 := pm_divb (x := (x22 * 1000)) (y := y19) (by omega) (by omega)
              generalize ((x22 * 1000) / y19) = y36 at b37 ⊢
              exact pm_iret hC hR pm_nar0 ⟨y36, rfl, ⟨by omega, by omega⟩, rfl⟩ dX11_share_136
            · skip
              refine pm_iload_n hC 2 dX11_share_65 rfl ?_
              refine pm_iconst (v := 4) hC dX11_share_66 ?_
              refine pm_icmp_ne (tgt := 83) hC ⟨by omega, by omega⟩ ⟨by decide, by decide⟩ dX11_share_67 (by decide) (fun c38 => ?_) (fun c38 => ?_)
              · skip
                refine pm_aload_n hC 0 (by decide) dX11_share_83 rfl ?_
                refine pm_getf (v := 4) hC 0 fl_X11_24 rfl rfl (by decide) rfl e31 dX11_share_84 ?_
                refine pm_iload hC 6 dX11_share_87 rfl ?_
                refine pm_callV (ci := 7) (as := [(0, x24)]) (st := []) hC 4 (c_X7_kindOfAnswer_4 x24 ⟨by omega, by omega⟩) lm_X11_259 li_X7_kindOfAnswer (by decide) (by decide) rfl rfl rfl (by decide) rfl rfl (Nat.le_of_ble_eq_true rfl) ⟨Nat.le_refl _, Or.inl rfl⟩ dX11_share_89 ⟨rfl, hV0⟩ (fun r39 V40 hp41 => ?_)
                obtain ⟨y42, rfl, b43, rfl⟩ := hp41
                change pm_J X 92 [(0, (3, 0)), (1, (0, a1)), (2, (0, a2)), (3, (0, 1)), (4, (0, y19)), (5, (0, x22)), (6, (0, x24))] [(0, y42)] 118 V0
                refine pm_iload_n hC 2 dX11_share_92 rfl ?_
                refine pm_icmp_ne (tgt := 100) hC ⟨by omega, by omega⟩ ⟨by omega, by omega⟩ dX11_share_93 (by decide) (fun c44 => ?_) (fun c44 => ?_)
                · skip
                  refine pm_iconst (v := 0) hC dX11_share_100 ?_
                  refine pm_istore (lv' := [(7, (0, 0)), (0, (3, 0)), (1, (0, a1)), (2, (0, a2)), (3, (0, 1)), (4, (0, y19)), (5, (0, x22)), (6, (0, x24))]) hC dX11_share_101 (by decide) rfl ?_
                  refine pm_aload_n hC 1 (by decide) dX11_share_103 rfl ?_
                  refine pm_iload hC 7 dX11_share_104 rfl ?_
                  refine pm_iload_n hC 2 dX11_share_106 rfl ?_
                  refine pm_callV (ci := 11) (as := [(0, x24), (0, a1)]) (st := []) hC 0 (c_X11_isOfLand_0 x24 a1 ⟨by omega, by omega⟩ ⟨by omega, by omega⟩) lm_X11_291 li_X11_isOfLand (by decide) (by decide) rfl rfl rfl (by decide) rfl rfl (Nat.le_of_ble_eq_true rfl) ⟨Nat.le_refl _, Or.inl rfl⟩ dX11_share_107 ⟨rfl, hV0⟩ (fun r45 V46 hp47 => ?_)
                  obtain ⟨y48, rfl, b49, rfl⟩ := hp47
                  change pm_J X 110 [(7, (0, 0)), (0, (3, 0)), (1, (0, a1)), (2, (0, a2)), (3, (0, 1)), (4, (0, y19)), (5, (0, x22)), (6, (0, x24))] [(0, y48)] 118 V0
                  refine pm_if_eq (tgt := 121) hC ⟨by omega, by omega⟩ dX11_share_110 (by decide) (fun c50 => ?_) (fun c50 => ?_)
                  · skip
                    obtain ⟨x51, ei52⟩ : ∃ y : Int, x24 + 1 = y := ⟨_, rfl⟩
                    refine pm_iinc (y := x51) (lv' := [(6, (0, x51)), (7, (0, 0)), (0, (3, 0)), (1, (0, a1)), (2, (0, a2)), (3, (0, 1)), (4, (0, y19)), (5, (0, x22))]) hC 7 dX11_share_121 (by decide) rfl ei52 rfl ?_
                    refine pm_goto (tgt := 53) hC dX11_share_124 (by decide) ?_
                    refine pm_lvsub [2, 3, 4, 5, 6, 7, 0] (lv' := [(0, (3, 0)), (1, (0, a1)), (2, (0, a2)), (3, (0, 1)), (4, (0, y19)), (5, (0, x22)), (6, (0, x51))]) rfl ?_
                    exact ih30 _ (by omega) x22 x51 ⟨by omega, by omega⟩ ⟨by omega, by omega⟩ (by omega) rfl
                  · skip
                    refine pm_iload hC 0 dX11_share_113 rfl ?_
                    refine pm_if_eq (tgt := 121) hC ⟨by decide, by decide⟩ dX11_share_115 (by decide) (fun c53 => ?_) (fun c53 => ?_)
                    · skip
                      obtain ⟨x54, ei55⟩ : ∃ y : Int, x24 + 1 = y := ⟨_, rfl⟩
                      refine pm_iinc (y := x54) (lv' := [(6, (0, x54)), (7, (0, 0)), (0, (3, 0)), (1, (0, a1)), (2, (0, a2)), (3, (0, 1)), (4, (0, y19)), (5, (0, x22))]) hC 7 dX11_share_121 (by decide) rfl ei55 rfl ?_
                      refine pm_goto (tgt := 53) hC dX11_share_124 (by decide) ?_
                      refine pm_lvsub [2, 3, 4, 5, 6, 7, 0] (lv' := [(0, (3, 0)), (1, (0, a1)), (2, (0, a2)), (3, (0, 1)), (4, (0, y19)), (5, (0, x22)), (6, (0, x54))]) rfl ?_
                      exact ih30 _ (by omega) x22 x54 ⟨by omega, by omega⟩ ⟨by omega, by omega⟩ (by omega) rfl
                    · skip
                      exfalso; omega
                · skip
                  refine pm_iconst (v := 1) hC dX11_share_96 ?_
                  refine pm_goto (tgt := 101) hC dX11_share_97 (by decide) ?_
                  refine pm_istore (lv' := [(7, (0, 1)), (0, (3, 0)), (1, (0, a1)), (2, (0, a2)), (3, (0, 1)), (4, (0, y19)), (5, (0, x22)), (6, (0, x24))]) hC dX11_share_101 (by decide) rfl ?_
                  refine pm_aload_n hC 1 (by decide) dX11_share_103 rfl ?_
                  refine pm_iload hC 7 dX11_share_104 rfl ?_
                  refine pm_iload_n hC 2 dX11_share_106 rfl ?_
                  refine pm_callV (ci := 11) (as := [(0, x24), (0, a1)]) (st := []) hC 0 (c_X11_isOfLand_0 x24 a1 ⟨by omega, by omega⟩ ⟨by omega, by omega⟩) lm_X11_291 li_X11_isOfLand (by decide) (by decide) rfl rfl rfl (by decide) rfl rfl (Nat.le_of_ble_eq_true rfl) ⟨Nat.le_refl _, Or.inl rfl⟩ dX11_share_107 ⟨rfl, hV0⟩ (fun r56 V57 hp58 => ?_)
                  obtain ⟨y59, rfl, b60, rfl⟩ := hp58
                  change pm_J X 110 [(7, (0, 1)), (0, (3, 0)), (1, (0, a1)), (2, (0, a2)), (3, (0, 1)), (4, (0, y19)), (5, (0, x22)), (6, (0, x24))] [(0, y59)] 118 V0
                  refine pm_if_eq (tgt := 121) hC ⟨by omega, by omega⟩ dX11_share_110 (by decide) (fun c61 => ?_) (fun c61 => ?_)
                  · skip
                    obtain ⟨x62, ei63⟩ : ∃ y : Int, x24 + 1 = y := ⟨_, rfl⟩
                    refine pm_iinc (y := x62) (lv' := [(6, (0, x62)), (7, (0, 1)), (0, (3, 0)), (1, (0, a1)), (2, (0, a2)), (3, (0, 1)), (4, (0, y19)), (5, (0, x22))]) hC 7 dX11_share_121 (by decide) rfl ei63 rfl ?_
                    refine pm_goto (tgt := 53) hC dX11_share_124 (by decide) ?_
                    refine pm_lvsub [2, 3, 4, 5, 6, 7, 0] (lv' := [(0, (3, 0)), (1, (0, a1)), (2, (0, a2)), (3, (0, 1)), (4, (0, y19)), (5, (0, x22)), (6, (0, x62))]) rfl ?_
                    exact ih30 _ (by omega) x22 x62 ⟨by omega, by omega⟩ ⟨by omega, by omega⟩ (by omega) rfl
                  · skip
                    refine pm_iload hC 0 dX11_share_113 rfl ?_
                    refine pm_if_eq (tgt := 121) hC ⟨by decide, by decide⟩ dX11_share_115 (by decide) (fun c64 => ?_) (fun c64 => ?_)
                    · skip
                      exfalso; omega
                    · skip
                      obtain ⟨x65, ei66⟩ : ∃ y : Int, x22 + 1 = y := ⟨_, rfl⟩
                      refine pm_iinc (y := x65) (lv' := [(5, (0, x65)), (7, (0, 1)), (0, (3, 0)), (1, (0, a1)), (2, (0, a2)), (3, (0, 1)), (4, (0, y19)), (6, (0, x24))]) hC 6 dX11_share_118 (by decide) rfl ei66 rfl ?_
                      obtain ⟨x67, ei68⟩ : ∃ y : Int, x24 + 1 = y := ⟨_, rfl⟩
                      refine pm_iinc (y := x67) (lv' := [(6, (0, x67)), (5, (0, x65)), (7, (0, 1)), (0, (3, 0)), (1, (0, a1)), (2, (0, a2)), (3, (0, 1)), (4, (0, y19))]) hC 7 dX11_share_121 (by decide) rfl ei68 rfl ?_
                      refine pm_goto (tgt := 53) hC dX11_share_124 (by decide) ?_
                      refine pm_lvsub [3, 4, 5, 6, 7, 1, 0] (lv' := [(0, (3, 0)), (1, (0, a1)), (2, (0, a2)), (3, (0, 1)), (4, (0, y19)), (5, (0, x65)), (6, (0, x67))]) rfl ?_
                      exact ih30 _ (by omega) x65 x67 ⟨by omega, by omega⟩ ⟨by omega, by omega⟩ (by omega) rfl
              · skip
                exfalso; omega
          refine pm_lvsub [4, 5, 6, 3, 2, 1, 0] (lv' := [(0, (3, 0)), (1, (0, a1)), (2, (0, a2)), (3, (0, 1)), (4, (0, y19)), (5, (0, 0)), (6, (0, 0))]) rfl ?_
          exact L27 _ 0 0 ⟨by decide, by decide⟩ ⟨by decide, by decide⟩ (by omega) rfl
        · skip
          refine pm_iconst (v := (-1)) hC dX11_share_45 ?_
          exact pm_iret hC hR pm_nar0 ⟨(-1), rfl, ⟨by omega, by omega⟩, rfl⟩ dX11_share_46
    · skip
      refine pm_iload_n hC 2 dX11_share_14 rfl ?_
      refine pm_iconst (v := 4) hC dX11_share_15 ?_
      refine pm_icmp_ne (tgt := 23) hC ⟨by omega, by omega⟩ ⟨by decide, by decide⟩ dX11_share_16 (by decide) (fun c69 => ?_) (fun c69 => ?_)
      · skip
        refine pm_iconst (v := 0) hC dX11_share_23 ?_
        refine pm_istore_n (lv' := [(3, (0, 0)), (0, (3, 0)), (1, (0, a1)), (2, (0, a2))]) hC dX11_share_24 (by decide) rfl ?_
        refine pm_iload_n hC 0 dX11_share_25 rfl ?_
        refine pm_if_eq (tgt := 37) hC ⟨by decide, by decide⟩ dX11_share_26 (by decide) (fun c70 => ?_) (fun c70 => ?_)
        · skip
          refine pm_iconst (v := 0) hC dX11_share_37 ?_
          refine pm_istore (lv' := [(4, (0, 0)), (3, (0, 0)), (0, (3, 0)), (1, (0, a1)), (2, (0, a2))]) hC dX11_share_38 (by decide) rfl ?_
          refine pm_iload hC 0 dX11_share_40 rfl ?_
          refine pm_if_gt (tgt := 47) hC ⟨by decide, by decide⟩ dX11_share_42 (by decide) (fun c71 => ?_) (fun c71 => ?_)
          · skip
            exfalso; omega
          · skip
            refine pm_iconst (v := (-1)) hC dX11_share_45 ?_
            exact pm_iret hC hR pm_nar0 ⟨(-1), rfl, ⟨by omega, by omega⟩, rfl⟩ dX11_share_46
        · skip
          exfalso; omega
      · skip
        refine pm_iconst (v := 1) hC dX11_share_19 ?_
        refine pm_goto (tgt := 24) hC dX11_share_20 (by decide) ?_
        refine pm_istore_n (lv' := [(3, (0, 1)), (0, (3, 0)), (1, (0, a1)), (2, (0, a2))]) hC dX11_share_24 (by decide) rfl ?_
        refine pm_iload_n hC 0 dX11_share_25 rfl ?_
        refine pm_if_eq (tgt := 37) hC ⟨by decide, by decide⟩ dX11_share_26 (by decide) (fun c72 => ?_) (fun c72 => ?_)
        · skip
          exfalso; omega
        · skip
          refine pm_aload_n hC 1 (by decide) dX11_share_29 rfl ?_
          refine pm_iload_n hC 2 dX11_share_30 rfl ?_
          refine pm_callV (ci := 11) (as := [(0, a1)]) (st := []) hC 0 (c_X11_countOfLand_0 a1 ⟨by omega, by omega⟩) lm_X11_288 li_X11_countOfLand (by decide) (by decide) rfl rfl rfl (by decide) rfl rfl (Nat.le_of_ble_eq_true rfl) ⟨Nat.le_refl _, Or.inl rfl⟩ dX11_share_31 ⟨rfl, hV0⟩ (fun r73 V74 hp75 => ?_)
          obtain ⟨y76, rfl, b77, rfl⟩ := hp75
          change pm_J X 34 [(3, (0, 1)), (0, (3, 0)), (1, (0, a1)), (2, (0, a2))] [(0, y76)] 118 V0
          refine pm_goto (tgt := 38) hC dX11_share_34 (by decide) ?_
          refine pm_istore (lv' := [(4, (0, y76)), (3, (0, 1)), (0, (3, 0)), (1, (0, a1)), (2, (0, a2))]) hC dX11_share_38 (by decide) rfl ?_
          refine pm_iload hC 0 dX11_share_40 rfl ?_
          refine pm_if_gt (tgt := 47) hC ⟨by omega, by omega⟩ dX11_share_42 (by decide) (fun c78 => ?_) (fun c78 => ?_)
          · skip
            refine pm_iconst (v := 0) hC dX11_share_47 ?_
            refine pm_istore (lv' := [(5, (0, 0)), (4, (0, y76)), (3, (0, 1)), (0, (3, 0)), (1, (0, a1)), (2, (0, a2))]) hC dX11_share_48 (by decide) rfl ?_
            refine pm_iconst (v := 0) hC dX11_share_50 ?_
            refine pm_istore (lv' := [(6, (0, 0)), (5, (0, 0)), (4, (0, y76)), (3, (0, 1)), (0, (3, 0)), (1, (0, a1)), (2, (0, a2))]) hC dX11_share_51 (by decide) rfl ?_
            have L84 : ∀ (N86 : Nat) (x79 : Int) (x81 : Int), (0 ≤ x79 ∧ x79 ≤ 60) → (0 ≤ x81 ∧ x81 ≤ 60) → (x79 ≤ x81) → (Int.toNat (60 - x81)) = N86 → pm_J X 53 [(0, (3, 0)), (1, (0, a1)), (2, (0, a2)), (3, (0, 1)), (4, (0, y76)), (5, (0, x79)), (6, (0, x81))] [] 118 V0 := by
              intro N86
              induction N86 using Nat.strongRecOn with
              | _ N86 ih87 =>
              intro x79 x81 b80 b82 b83 hm85
              refine pm_iload hC 6 dX11_share_53 rfl ?_
              refine pm_aload_n hC 0 (by decide) dX11_share_55 rfl ?_
              have e88 : V0 0 3 = 4 := hV0.one 0 3 (by decide) (by decide) rfl
              refine pm_getf (v := 4) hC 0 fl_X11_24 rfl rfl (by decide) rfl e88 dX11_share_56 ?_
              obtain ⟨y89, e90⟩ : ∃ y, V0 4 6 = y := ⟨_, rfl⟩
              have b91 := hV0.get 4 6 (lo := 0) (hi := 60) (by decide) (by decide) rfl
              rw [e90] at b91
              refine pm_getf (v := y89) hC 4 fl_X11_162 rfl rfl (by decide) rfl e90 dX11_share_59 ?_
              refine pm_icmp_ge (tgt := 127) hC ⟨by omega, by omega⟩ ⟨by omega, by omega⟩ dX11_share_62 (by decide) (fun c92 => ?_) (fun c92 => ?_)
              · skip
                refine pm_iload hC 5 dX11_share_127 rfl ?_
                refine pm_sipush (v := 1000) hC dX11_share_129 (by decide) ?_
                refine pm_imul hC dX11_share_132 ?_
                refine pm_iload hC 4 dX11_share_133 rfl ?_
                refine pm_idiv hC ⟨by omega, by omega, by omega⟩ ⟨by omega, by omega, by omega⟩ dX11_share_135 ?_
                have b94 := pm_divb (x := (x79 * 1000)) (y := y76) (by omega) (by omega)
                generalize ((x79 * 1000) / y76) = y93 at b94 ⊢
                exact pm_iret hC hR pm_nar0 ⟨y93, rfl, ⟨by omega, by omega⟩, rfl⟩ dX11_share_136
              · skip
                refine pm_iload_n hC 2 dX11_share_65 rfl ?_
                refine pm_iconst (v := 4) hC dX11_share_66 ?_
                refine pm_icmp_ne (tgt := 83) hC ⟨by omega, by omega⟩ ⟨by decide, by decide⟩ dX11_share_67 (by decide) (fun c95 => ?_) (fun c95 => ?_)
                · skip
                  exfalso; omega
                · skip
                  refine pm_aload_n hC 0 (by decide) dX11_share_70 rfl ?_
                  refine pm_getf (v := 4) hC 0 fl_X11_24 rfl rfl (by decide) rfl e88 dX11_share_71 ?_
                  have e96 : V0 4 11 = 13 := hV0.one 4 11 (by decide) (by decide) rfl
                  refine pm_getf (v := 13) hC 4 fl_X11_255 rfl rfl (by decide) rfl e96 dX11_share_74 ?_
                  refine pm_iload hC 6 dX11_share_77 rfl ?_
                  obtain ⟨y97, e98⟩ : ∃ y, V0 13 (x81 : Int).toNat = y := ⟨_, rfl⟩
                  have b99 := hV0.get 13 (x81 : Int).toNat (lo := 0) (hi := 1) (by decide) (show _ < 60 by omega) rfl
                  rw [e98] at b99
                  refine pm_zaload (len := 60) (v := y97) hC 13 rfl rfl (by decide) ⟨by omega, by omega⟩ (by decide) e98 dX11_share_79 ?_
                  refine pm_goto (tgt := 101) hC dX11_share_80 (by decide) ?_
                  refine pm_istore (lv' := [(7, (0, y97)), (0, (3, 0)), (1, (0, a1)), (2, (0, a2)), (3, (0, 1)), (4, (0, y76)), (5, (0, x79)), (6, (0, x81))]) hC dX11_share_101 (by decide) rfl ?_
                  refine pm_aload_n hC 1 (by decide) dX11_share_103 rfl ?_
                  refine pm_iload hC 7 dX11_share_104 rfl ?_
                  refine pm_iload_n hC 2 dX11_share_106 rfl ?_
                  refine pm_callV (ci := 11) (as := [(0, x81), (0, a1)]) (st := []) hC 0 (c_X11_isOfLand_0 x81 a1 ⟨by omega, by omega⟩ ⟨by omega, by omega⟩) lm_X11_291 li_X11_isOfLand (by decide) (by decide) rfl rfl rfl (by decide) rfl rfl (Nat.le_of_ble_eq_true rfl) ⟨Nat.le_refl _, Or.inl rfl⟩ dX11_share_107 ⟨rfl, hV0⟩ (fun r100 V101 hp102 => ?_)
                  obtain ⟨y103, rfl, b104, rfl⟩ := hp102
                  change pm_J X 110 [(7, (0, y97)), (0, (3, 0)), (1, (0, a1)), (2, (0, a2)), (3, (0, 1)), (4, (0, y76)), (5, (0, x79)), (6, (0, x81))] [(0, y103)] 118 V0
                  refine pm_if_eq (tgt := 121) hC ⟨by omega, by omega⟩ dX11_share_110 (by decide) (fun c105 => ?_) (fun c105 => ?_)
                  · skip
                    obtain ⟨x106, ei107⟩ : ∃ y : Int, x81 + 1 = y := ⟨_, rfl⟩
                    refine pm_iinc (y := x106) (lv' := [(6, (0, x106)), (7, (0, y97)), (0, (3, 0)), (1, (0, a1)), (2, (0, a2)), (3, (0, 1)), (4, (0, y76)), (5, (0, x79))]) hC 7 dX11_share_121 (by decide) rfl ei107 rfl ?_
                    refine pm_goto (tgt := 53) hC dX11_share_124 (by decide) ?_
                    refine pm_lvsub [2, 3, 4, 5, 6, 7, 0] (lv' := [(0, (3, 0)), (1, (0, a1)), (2, (0, a2)), (3, (0, 1)), (4, (0, y76)), (5, (0, x79)), (6, (0, x106))]) rfl ?_
                    exact ih87 _ (by omega) x79 x106 ⟨by omega, by omega⟩ ⟨by omega, by omega⟩ (by omega) rfl
                  · skip
                    refine pm_iload hC 0 dX11_share_113 rfl ?_
                    refine pm_if_eq (tgt := 121) hC ⟨by omega, by omega⟩ dX11_share_115 (by decide) (fun c108 => ?_) (fun c108 => ?_)
                    · skip
                      obtain ⟨x109, ei110⟩ : ∃ y : Int, x81 + 1 = y := ⟨_, rfl⟩
                      refine pm_iinc (y := x109) (lv' := [(6, (0, x109)), (7, (0, y97)), (0, (3, 0)), (1, (0, a1)), (2, (0, a2)), (3, (0, 1)), (4, (0, y76)), (5, (0, x79))]) hC 7 dX11_share_121 (by decide) rfl ei110 rfl ?_
                      refine pm_goto (tgt := 53) hC dX11_share_124 (by decide) ?_
                      refine pm_lvsub [2, 3, 4, 5, 6, 7, 0] (lv' := [(0, (3, 0)), (1, (0, a1)), (2, (0, a2)), (3, (0, 1)), (4, (0, y76)), (5, (0, x79)), (6, (0, x109))]) rfl ?_
                      exact ih87 _ (by omega) x79 x109 ⟨by omega, by omega⟩ ⟨by omega, by omega⟩ (by omega) rfl
                    · skip
                      obtain ⟨x111, ei112⟩ : ∃ y : Int, x79 + 1 = y := ⟨_, rfl⟩
                      refine pm_iinc (y := x111) (lv' := [(5, (0, x111)), (7, (0, y97)), (0, (3, 0)), (1, (0, a1)), (2, (0, a2)), (3, (0, 1)), (4, (0, y76)), (6, (0, x81))]) hC 6 dX11_share_118 (by decide) rfl ei112 rfl ?_
                      obtain ⟨x113, ei114⟩ : ∃ y : Int, x81 + 1 = y := ⟨_, rfl⟩
                      refine pm_iinc (y := x113) (lv' := [(6, (0, x113)), (5, (0, x111)), (7, (0, y97)), (0, (3, 0)), (1, (0, a1)), (2, (0, a2)), (3, (0, 1)), (4, (0, y76))]) hC 7 dX11_share_121 (by decide) rfl ei114 rfl ?_
                      refine pm_goto (tgt := 53) hC dX11_share_124 (by decide) ?_
                      refine pm_lvsub [3, 4, 5, 6, 7, 1, 0] (lv' := [(0, (3, 0)), (1, (0, a1)), (2, (0, a2)), (3, (0, 1)), (4, (0, y76)), (5, (0, x111)), (6, (0, x113))]) rfl ?_
                      exact ih87 _ (by omega) x111 x113 ⟨by omega, by omega⟩ ⟨by omega, by omega⟩ (by omega) rfl
            refine pm_lvsub [4, 5, 6, 3, 2, 1, 0] (lv' := [(0, (3, 0)), (1, (0, a1)), (2, (0, a2)), (3, (0, 1)), (4, (0, y76)), (5, (0, 0)), (6, (0, 0))]) rfl ?_
            exact L84 _ 0 0 ⟨by decide, by decide⟩ ⟨by decide, by decide⟩ (by omega) rfl
          · skip
            refine pm_iconst (v := (-1)) hC dX11_share_45 ?_
            exact pm_iret hC hR pm_nar0 ⟨(-1), rfl, ⟨by omega, by omega⟩, rfl⟩ dX11_share_46
set_option maxHeartbeats 4000000 in
set_option maxRecDepth 100000 in
theorem c_X11_foretold_0 (a1 a2 a3 : Int) (h0 : (-2147483648) ≤ a1 ∧ a1 ≤ 2147483647) (h1 : (-2147483648) ≤ a2 ∧ a2 ≤ 2147483647) (h2 : (-2147483648) ≤ a3 ∧ a3 ≤ 2147483647) : pm_K 5 yX11_foretold cX11_foretold 8 (some .int) (fun av V => av = [(3, 0), (0, a1), (0, a2), (0, a3)] ∧ pm_ok 0 90 V) (fun _ V r V' => ∃ y, r = some (0, y) ∧ ((-2147483648) ≤ y ∧ y ≤ 2147483647) ∧ pm_ok 0 90 V' ∧ pm_fr [73, 74, 75, 76, 77] V V') := by
  refine pm_MT.of (by decide) ⟨Nat.le_refl _, by decide⟩ (fun av V h => by rw [h.1]; exact (by decide : pm_words [(3, 0), (0, 0), (0, 0), (0, 0)] ≤ 8)) ?_
  rintro X av V0 hC - hR ⟨rfl, hV0⟩
  change pm_J X 0 [(0, (3, 0)), (1, (0, a1)), (2, (0, a2)), (3, (0, a3))] [] 118 V0
  refine pm_iload_n hC 1 dX11_foretold_0 rfl ?_
  refine pm_callS (as := [(0, a1)]) (st := []) hC (c_X11_isLaw a1 ⟨by omega, by omega⟩) lm_X11_262 ls_X11_isLaw (by decide) (by decide) rfl rfl (Nat.le_of_ble_eq_true rfl) ⟨Nat.le_refl _, Or.inl rfl⟩ dX11_foretold_1 ⟨rfl, hV0⟩ (fun r1 V2 hp3 => ?_)
  obtain ⟨y4, rfl, b5, rfl⟩ := hp3
  change pm_J X 4 [(0, (3, 0)), (1, (0, a1)), (2, (0, a2)), (3, (0, a3))] [(0, y4)] 118 V0
  refine pm_if_eq (tgt := 30) hC ⟨by omega, by omega⟩ dX11_foretold_4 (by decide) (fun c6 => ?_) (fun c6 => ?_)
  · skip
    refine pm_iconst (v := 0) hC dX11_foretold_30 ?_
    refine pm_istore (lv' := [(4, (0, 0)), (0, (3, 0)), (1, (0, a1)), (2, (0, a2)), (3, (0, a3))]) hC dX11_foretold_31 (by decide) rfl ?_
    refine pm_iload hC 0 dX11_foretold_33 rfl ?_
    refine pm_if_eq (tgt := 46) hC ⟨by decide, by decide⟩ dX11_foretold_35 (by decide) (fun c7 => ?_) (fun c7 => ?_)
    · skip
      refine pm_iconst (v := 0) hC dX11_foretold_46 ?_
      refine pm_istore (lv' := [(5, (0, 0)), (4, (0, 0)), (0, (3, 0)), (1, (0, a1)), (2, (0, a2)), (3, (0, a3))]) hC dX11_foretold_47 (by decide) rfl ?_
      refine pm_iload hC 0 dX11_foretold_49 rfl ?_
      refine pm_if_gt (tgt := 56) hC ⟨by decide, by decide⟩ dX11_foretold_51 (by decide) (fun c8 => ?_) (fun c8 => ?_)
      · skip
        exfalso; omega
      · skip
        refine pm_iconst (v := (-1)) hC dX11_foretold_54 ?_
        exact pm_iret hC hR pm_nar0 ⟨(-1), rfl, ⟨by omega, by omega⟩, hV0, (pm_fr.rf (ws := [73, 74, 75, 76, 77]) (V := V0))⟩ dX11_foretold_55
    · skip
      exfalso; omega
  · skip
    refine pm_iload_n hC 2 dX11_foretold_7 rfl ?_
    refine pm_callS (as := [(0, a2)]) (st := []) hC (c_X11_isLandOrAll a2 ⟨by omega, by omega⟩) lm_X11_285 ls_X11_isLandOrAll (by decide) (by decide) rfl rfl (Nat.le_of_ble_eq_true rfl) ⟨Nat.le_refl _, Or.inl rfl⟩ dX11_foretold_8 ⟨rfl, hV0⟩ (fun r9 V10 hp11 => ?_)
    obtain ⟨y12, rfl, b13, rfl⟩ := hp11
    change pm_J X 11 [(0, (3, 0)), (1, (0, a1)), (2, (0, a2)), (3, (0, a3))] [(0, y12)] 118 V0
    refine pm_if_eq (tgt := 30) hC ⟨by omega, by omega⟩ dX11_foretold_11 (by decide) (fun c14 => ?_) (fun c14 => ?_)
    · skip
      refine pm_iconst (v := 0) hC dX11_foretold_30 ?_
      refine pm_istore (lv' := [(4, (0, 0)), (0, (3, 0)), (1, (0, a1)), (2, (0, a2)), (3, (0, a3))]) hC dX11_foretold_31 (by decide) rfl ?_
      refine pm_iload hC 0 dX11_foretold_33 rfl ?_
      refine pm_if_eq (tgt := 46) hC ⟨by decide, by decide⟩ dX11_foretold_35 (by decide) (fun c15 => ?_) (fun c15 => ?_)
      · skip
        refine pm_iconst (v := 0) hC dX11_foretold_46 ?_
        refine pm_istore (lv' := [(5, (0, 0)), (4, (0, 0)), (0, (3, 0)), (1, (0, a1)), (2, (0, a2)), (3, (0, a3))]) hC dX11_foretold_47 (by decide) rfl ?_
        refine pm_iload hC 0 dX11_foretold_49 rfl ?_
        refine pm_if_gt (tgt := 56) hC ⟨by decide, by decide⟩ dX11_foretold_51 (by decide) (fun c16 => ?_) (fun c16 => ?_)
        · skip
          exfalso; omega
        · skip
          refine pm_iconst (v := (-1)) hC dX11_foretold_54 ?_
          exact pm_iret hC hR pm_nar0 ⟨(-1), rfl, ⟨by omega, by omega⟩, hV0, (pm_fr.rf (ws := [73, 74, 75, 76, 77]) (V := V0))⟩ dX11_foretold_55
      · skip
        exfalso; omega
    · skip
      refine pm_iload_n hC 3 dX11_foretold_14 rfl ?_
      refine pm_callS (as := [(0, a3)]) (st := []) hC (c_X11_isKind a3 ⟨by omega, by omega⟩) lm_X11_215 ls_X11_isKind (by decide) (by decide) rfl rfl (Nat.le_of_ble_eq_true rfl) ⟨Nat.le_refl _, Or.inl rfl⟩ dX11_foretold_15 ⟨rfl, hV0⟩ (fun r17 V18 hp19 => ?_)
      obtain ⟨y20, rfl, b21, rfl⟩ := hp19
      change pm_J X 18 [(0, (3, 0)), (1, (0, a1)), (2, (0, a2)), (3, (0, a3))] [(0, y20)] 118 V0
      refine pm_if_ne (tgt := 26) hC ⟨by omega, by omega⟩ dX11_foretold_18 (by decide) (fun c22 => ?_) (fun c22 => ?_)
      · skip
        refine pm_iconst (v := 1) hC dX11_foretold_26 ?_
        refine pm_goto (tgt := 31) hC dX11_foretold_27 (by decide) ?_
        refine pm_istore (lv' := [(4, (0, 1)), (0, (3, 0)), (1, (0, a1)), (2, (0, a2)), (3, (0, a3))]) hC dX11_foretold_31 (by decide) rfl ?_
        refine pm_iload hC 0 dX11_foretold_33 rfl ?_
        refine pm_if_eq (tgt := 46) hC ⟨by decide, by decide⟩ dX11_foretold_35 (by decide) (fun c23 => ?_) (fun c23 => ?_)
        · skip
          exfalso; omega
        · skip
          refine pm_aload_n hC 1 (by decide) dX11_foretold_38 rfl ?_
          refine pm_iload_n hC 3 dX11_foretold_39 rfl ?_
          refine pm_callV (ci := 11) (as := [(0, a2)]) (st := []) hC 0 (c_X11_countOfLand_0 a2 ⟨by omega, by omega⟩) lm_X11_288 li_X11_countOfLand (by decide) (by decide) rfl rfl rfl (by decide) rfl rfl (Nat.le_of_ble_eq_true rfl) ⟨Nat.le_refl _, Or.inl rfl⟩ dX11_foretold_40 ⟨rfl, hV0⟩ (fun r24 V25 hp26 => ?_)
          obtain ⟨y27, rfl, b28, rfl⟩ := hp26
          change pm_J X 43 [(4, (0, 1)), (0, (3, 0)), (1, (0, a1)), (2, (0, a2)), (3, (0, a3))] [(0, y27)] 118 V0
          refine pm_goto (tgt := 47) hC dX11_foretold_43 (by decide) ?_
          refine pm_istore (lv' := [(5, (0, y27)), (4, (0, 1)), (0, (3, 0)), (1, (0, a1)), (2, (0, a2)), (3, (0, a3))]) hC dX11_foretold_47 (by decide) rfl ?_
          refine pm_iload hC 0 dX11_foretold_49 rfl ?_
          refine pm_if_gt (tgt := 56) hC ⟨by omega, by omega⟩ dX11_foretold_51 (by decide) (fun c29 => ?_) (fun c29 => ?_)
          · skip
            refine pm_iconst (v := 0) hC dX11_foretold_56 ?_
            refine pm_istore (lv' := [(6, (0, 0)), (5, (0, y27)), (4, (0, 1)), (0, (3, 0)), (1, (0, a1)), (2, (0, a2)), (3, (0, a3))]) hC dX11_foretold_57 (by decide) rfl ?_
            refine pm_iconst (v := 0) hC dX11_foretold_59 ?_
            refine pm_istore (lv' := [(7, (0, 0)), (6, (0, 0)), (5, (0, y27)), (4, (0, 1)), (0, (3, 0)), (1, (0, a1)), (2, (0, a2)), (3, (0, a3))]) hC dX11_foretold_60 (by decide) rfl ?_
            have L37 : ∀ (N39 : Nat) (x30 : Int) (x32 : Int) (V34 : pm_M), ((-2147483648) ≤ x30 ∧ x30 ≤ 2147483647) → (0 ≤ x32 ∧ x32 ≤ 60) → pm_ok 0 90 V34 → pm_fr [73, 74, 75, 76, 77] V0 V34 → (Int.toNat (60 - x32)) = N39 → pm_J X 62 [(0, (3, 0)), (1, (0, a1)), (2, (0, a2)), (3, (0, a3)), (4, (0, 1)), (5, (0, y27)), (6, (0, x30)), (7, (0, x32))] [] 118 V34 := by
              intro N39
              induction N39 using Nat.strongRecOn with
              | _ N39 ih40 =>
              intro x30 x32 V34 b31 b33 hV35 hF36 hm38
              refine pm_iload hC 7 dX11_foretold_62 rfl ?_
              refine pm_aload_n hC 0 (by decide) dX11_foretold_64 rfl ?_
              have e41 : V34 0 3 = 4 := hV35.one 0 3 (by decide) (by decide) rfl
              refine pm_getf (v := 4) hC 0 fl_X11_24 rfl rfl (by decide) rfl e41 dX11_foretold_65 ?_
              obtain ⟨y42, e43⟩ : ∃ y, V34 4 6 = y := ⟨_, rfl⟩
              have b44 := hV35.get 4 6 (lo := 0) (hi := 60) (by decide) (by decide) rfl
              rw [e43] at b44
              refine pm_getf (v := y42) hC 4 fl_X11_162 rfl rfl (by decide) rfl e43 dX11_foretold_68 ?_
              refine pm_icmp_ge (tgt := 160) hC ⟨by omega, by omega⟩ ⟨by omega, by omega⟩ dX11_foretold_71 (by decide) (fun c45 => ?_) (fun c45 => ?_)
              · skip
                refine pm_iload hC 6 dX11_foretold_160 rfl ?_
                refine pm_iload hC 5 dX11_foretold_162 rfl ?_
                refine pm_idivT hC ⟨by omega, by omega⟩ ⟨by omega, by omega⟩ (by omega) dX11_foretold_164 ?_
                refine pm_some hC (fun y46 b47 => ?_)
                have b47 := And.intro b47.1 b47.2
                exact pm_iret hC hR pm_nar0 ⟨y46, rfl, ⟨by omega, by omega⟩, hV35, hF36⟩ dX11_foretold_165
              · skip
                refine pm_aload_n hC 0 (by decide) dX11_foretold_74 rfl ?_
                refine pm_iload hC 7 dX11_foretold_75 rfl ?_
                refine pm_iload_n hC 2 dX11_foretold_77 rfl ?_
                refine pm_callV (ci := 11) (as := [(0, x32), (0, a2)]) (st := []) hC 0 (c_X11_isOfLand_0 x32 a2 ⟨by omega, by omega⟩ ⟨by omega, by omega⟩) lm_X11_291 li_X11_isOfLand (by decide) (by decide) rfl rfl rfl (by decide) rfl rfl (Nat.le_of_ble_eq_true rfl) ⟨Nat.le_refl _, Or.inl rfl⟩ dX11_foretold_78 ⟨rfl, hV35⟩ (fun r48 V49 hp50 => ?_)
                obtain ⟨y51, rfl, b52, rfl⟩ := hp50
                change pm_J X 81 [(0, (3, 0)), (1, (0, a1)), (2, (0, a2)), (3, (0, a3)), (4, (0, 1)), (5, (0, y27)), (6, (0, x30)), (7, (0, x32))] [(0, y51)] 118 V34
                refine pm_if_eq (tgt := 154) hC ⟨by omega, by omega⟩ dX11_foretold_81 (by decide) (fun c53 => ?_) (fun c53 => ?_)
                · skip
                  obtain ⟨x54, ei55⟩ : ∃ y : Int, x32 + 1 = y := ⟨_, rfl⟩
                  refine pm_iinc (y := x54) (lv' := [(7, (0, x54)), (0, (3, 0)), (1, (0, a1)), (2, (0, a2)), (3, (0, a3)), (4, (0, 1)), (5, (0, y27)), (6, (0, x30))]) hC 7 dX11_foretold_154 (by decide) rfl ei55 rfl ?_
                  refine pm_goto (tgt := 62) hC dX11_foretold_157 (by decide) ?_
                  refine pm_lvsub [1, 2, 3, 4, 5, 6, 7, 0] (lv' := [(0, (3, 0)), (1, (0, a1)), (2, (0, a2)), (3, (0, a3)), (4, (0, 1)), (5, (0, y27)), (6, (0, x30)), (7, (0, x54))]) rfl ?_
                  exact ih40 _ (by omega) x30 x54 V34 ⟨by omega, by omega⟩ ⟨by omega, by omega⟩ hV35 hF36 rfl
                · skip
                  refine pm_aload_n hC 0 (by decide) dX11_foretold_84 rfl ?_
                  refine pm_aload_n hC 0 (by decide) dX11_foretold_85 rfl ?_
                  refine pm_getf (v := 4) hC 0 fl_X11_24 rfl rfl (by decide) rfl e41 dX11_foretold_86 ?_
                  have e56 : V34 4 7 = 9 := hV35.one 4 7 (by decide) (by decide) rfl
                  refine pm_getf (v := 9) hC 4 fl_X11_243 rfl rfl (by decide) rfl e56 dX11_foretold_89 ?_
                  refine pm_iload hC 7 dX11_foretold_92 rfl ?_
                  obtain ⟨y57, e58⟩ : ∃ y, V34 9 (x32 : Int).toNat = y := ⟨_, rfl⟩
                  have b59 := hV35.get1 9 (x32 : Int).toNat (lo := 0) (hi := 999) (by decide) (show _ < 60 by omega) rfl
                  rw [e58] at b59
                  refine pm_iaload (len := 60) (v := y57) hC 9 rfl rfl (by decide) ⟨by omega, by omega⟩ (by decide) e58 dX11_foretold_94 ?_
                  refine pm_aload_n hC 0 (by decide) dX11_foretold_95 rfl ?_
                  refine pm_getf (v := 4) hC 0 fl_X11_24 rfl rfl (by decide) rfl e41 dX11_foretold_96 ?_
                  have e60 : V34 4 8 = 10 := hV35.one 4 8 (by decide) (by decide) rfl
                  refine pm_getf (v := 10) hC 4 fl_X11_246 rfl rfl (by decide) rfl e60 dX11_foretold_99 ?_
                  refine pm_iload hC 7 dX11_foretold_102 rfl ?_
                  obtain ⟨y61, e62⟩ : ∃ y, V34 10 (x32 : Int).toNat = y := ⟨_, rfl⟩
                  have b63 := hV35.get 10 (x32 : Int).toNat (lo := 0) (hi := 99) (by decide) (show _ < 60 by omega) rfl
                  rw [e62] at b63
                  refine pm_iaload (len := 60) (v := y61) hC 10 rfl rfl (by decide) ⟨by omega, by omega⟩ (by decide) e62 dX11_foretold_104 ?_
                  refine pm_aload_n hC 0 (by decide) dX11_foretold_105 rfl ?_
                  refine pm_getf (v := 4) hC 0 fl_X11_24 rfl rfl (by decide) rfl e41 dX11_foretold_106 ?_
                  have e64 : V34 4 9 = 11 := hV35.one 4 9 (by decide) (by decide) rfl
                  refine pm_getf (v := 11) hC 4 fl_X11_249 rfl rfl (by decide) rfl e64 dX11_foretold_109 ?_
                  refine pm_iload hC 7 dX11_foretold_112 rfl ?_
                  obtain ⟨y65, e66⟩ : ∃ y, V34 11 (x32 : Int).toNat = y := ⟨_, rfl⟩
                  have b67 := hV35.get 11 (x32 : Int).toNat (lo := (-99)) (hi := 99) (by decide) (show _ < 60 by omega) rfl
                  rw [e66] at b67
                  refine pm_iaload (len := 60) (v := y65) hC 11 rfl rfl (by decide) ⟨by omega, by omega⟩ (by decide) e66 dX11_foretold_114 ?_
                  refine pm_callV (ci := 11) (as := [(0, y57), (0, y61), (0, y65)]) (st := []) hC 0 (c_X11_pose_0 y57 y61 y65 ⟨by omega, by omega⟩ ⟨by omega, by omega⟩ ⟨by omega, by omega⟩ (by omega)) lm_X11_229 li_X11_pose (by decide) (by decide) rfl rfl rfl (by decide) rfl rfl (Nat.le_of_ble_eq_true rfl) ⟨Nat.le_refl _, Or.inl rfl⟩ dX11_foretold_115 ⟨rfl, hV35⟩ (fun r68 V69 hp70 => ?_)
                  obtain ⟨rfl, hV71, hF72⟩ := hp70
                  change pm_J X 118 [(0, (3, 0)), (1, (0, a1)), (2, (0, a2)), (3, (0, a3)), (4, (0, 1)), (5, (0, y27)), (6, (0, x30)), (7, (0, x32))] [] 118 V69
                  have hF73 := pm_fr.tr hF36 hF72 (by decide)
                  have e74 : V69 0 3 = 4 := by rw [hF72 0 (by decide)]; exact e41
                  have e75 : V69 4 6 = y42 := by rw [hF72 4 (by decide)]; exact e43
                  have e76 : V69 4 7 = 9 := by rw [hF72 4 (by decide)]; exact e56
                  have e77 : V69 4 8 = 10 := by rw [hF72 4 (by decide)]; exact e60
                  have e78 : V69 4 9 = 11 := by rw [hF72 4 (by decide)]; exact e64
                  refine pm_aload_n hC 0 (by decide) dX11_foretold_118 rfl ?_
                  have e79 : V69 0 5 = 73 := hV71.one 0 5 (by decide) (by decide) rfl
                  refine pm_getf (v := 73) hC 0 fl_X11_75 rfl rfl (by decide) rfl e79 dX11_foretold_119 ?_
                  refine pm_iload_n hC 1 dX11_foretold_122 rfl ?_
                  refine pm_callV (ci := 10) (as := [(0, a1)]) (st := []) hC 73 (c_X10_weigh_73 a1 ⟨by omega, by omega⟩) lm_X11_294 li_X10_weigh (by decide) (by decide) rfl rfl rfl (by decide) rfl rfl (Nat.le_of_ble_eq_true rfl) ⟨Nat.le_refl _, Or.inl rfl⟩ dX11_foretold_123 ⟨rfl, hV71⟩ (fun r80 V81 hp82 => ?_)
                  obtain ⟨rfl, hV83, hF84⟩ := hp82
                  change pm_J X 126 [(0, (3, 0)), (1, (0, a1)), (2, (0, a2)), (3, (0, a3)), (4, (0, 1)), (5, (0, y27)), (6, (0, x30)), (7, (0, x32))] [] 118 V81
                  have hF85 := pm_fr.tr hF73 hF84 (by decide)
                  have e86 : V81 0 3 = 4 := by rw [hF84 0 (by decide)]; exact e74
                  have e87 : V81 4 6 = y42 := by rw [hF84 4 (by decide)]; exact e75
                  have e88 : V81 4 7 = 9 := by rw [hF84 4 (by decide)]; exact e76
                  have e89 : V81 4 8 = 10 := by rw [hF84 4 (by decide)]; exact e77
                  have e90 : V81 4 9 = 11 := by rw [hF84 4 (by decide)]; exact e78
                  have e91 : V81 0 5 = 73 := by rw [hF84 0 (by decide)]; exact e79
                  refine pm_iload hC 6 dX11_foretold_126 rfl ?_
                  refine pm_iload_n hC 3 dX11_foretold_128 rfl ?_
                  refine pm_iconst (v := 4) hC dX11_foretold_129 ?_
                  refine pm_icmp_ne (tgt := 143) hC ⟨by omega, by omega⟩ ⟨by decide, by decide⟩ dX11_foretold_130 (by decide) (fun c92 => ?_) (fun c92 => ?_)
                  · skip
                    refine pm_aload_n hC 0 (by decide) dX11_foretold_143 rfl ?_
                    refine pm_getf (v := 73) hC 0 fl_X11_75 rfl rfl (by decide) rfl e91 dX11_foretold_144 ?_
                    refine pm_iload_n hC 3 dX11_foretold_147 rfl ?_
                    refine pm_callV (ci := 10) (as := [(0, a3)]) (st := [(0, x30)]) hC 73 (c_X10_chanceOfKind_73 a3 ⟨by omega, by omega⟩) lm_X11_218 li_X10_chanceOfKind (by decide) (by decide) rfl rfl rfl (by decide) rfl rfl (Nat.le_of_ble_eq_true rfl) ⟨Nat.le_refl _, Or.inl rfl⟩ dX11_foretold_148 ⟨rfl, hV83⟩ (fun r93 V94 hp95 => ?_)
                    obtain ⟨y96, rfl, b97, rfl⟩ := hp95
                    change pm_J X 151 [(0, (3, 0)), (1, (0, a1)), (2, (0, a2)), (3, (0, a3)), (4, (0, 1)), (5, (0, y27)), (6, (0, x30)), (7, (0, x32))] [(0, y96), (0, x30)] 118 V81
                    refine pm_iadd hC dX11_foretold_151 ?_
                    refine pm_some hC (fun y98 b99 => ?_)
                    have b99 := And.intro b99.1 b99.2
                    refine pm_istore (lv' := [(6, (0, y98)), (0, (3, 0)), (1, (0, a1)), (2, (0, a2)), (3, (0, a3)), (4, (0, 1)), (5, (0, y27)), (7, (0, x32))]) hC dX11_foretold_152 (by decide) rfl ?_
                    obtain ⟨x100, ei101⟩ : ∃ y : Int, x32 + 1 = y := ⟨_, rfl⟩
                    refine pm_iinc (y := x100) (lv' := [(7, (0, x100)), (6, (0, y98)), (0, (3, 0)), (1, (0, a1)), (2, (0, a2)), (3, (0, a3)), (4, (0, 1)), (5, (0, y27))]) hC 7 dX11_foretold_154 (by decide) rfl ei101 rfl ?_
                    refine pm_goto (tgt := 62) hC dX11_foretold_157 (by decide) ?_
                    refine pm_lvsub [2, 3, 4, 5, 6, 7, 1, 0] (lv' := [(0, (3, 0)), (1, (0, a1)), (2, (0, a2)), (3, (0, a3)), (4, (0, 1)), (5, (0, y27)), (6, (0, y98)), (7, (0, x100))]) rfl ?_
                    exact ih40 _ (by omega) y98 x100 V81 ⟨by omega, by omega⟩ ⟨by omega, by omega⟩ hV83 hF85 rfl
                  · skip
                    exfalso; omega
            refine pm_lvsub [4, 5, 6, 7, 3, 2, 1, 0] (lv' := [(0, (3, 0)), (1, (0, a1)), (2, (0, a2)), (3, (0, a3)), (4, (0, 1)), (5, (0, y27)), (6, (0, 0)), (7, (0, 0))]) rfl ?_
            exact L37 _ 0 0 V0 ⟨by decide, by decide⟩ ⟨by decide, by decide⟩ hV0 (pm_fr.rf (ws := [73, 74, 75, 76, 77]) (V := V0)) rfl
          · skip
            refine pm_iconst (v := (-1)) hC dX11_foretold_54 ?_
            exact pm_iret hC hR pm_nar0 ⟨(-1), rfl, ⟨by omega, by omega⟩, hV0, (pm_fr.rf (ws := [73, 74, 75, 76, 77]) (V := V0))⟩ dX11_foretold_55
      · skip
        refine pm_iload_n hC 3 dX11_foretold_21 rfl ?_
        refine pm_iconst (v := 4) hC dX11_foretold_22 ?_
        refine pm_icmp_ne (tgt := 30) hC ⟨by omega, by omega⟩ ⟨by decide, by decide⟩ dX11_foretold_23 (by decide) (fun c102 => ?_) (fun c102 => ?_)
        · skip
          refine pm_iconst (v := 0) hC dX11_foretold_30 ?_
          refine pm_istore (lv' := [(4, (0, 0)), (0, (3, 0)), (1, (0, a1)), (2, (0, a2)), (3, (0, a3))]) hC dX11_foretold_31 (by decide) rfl ?_
          refine pm_iload hC 0 dX11_foretold_33 rfl ?_
          refine pm_if_eq (tgt := 46) hC ⟨by decide, by decide⟩ dX11_foretold_35 (by decide) (fun c103 => ?_) (fun c103 => ?_)
          · skip
            refine pm_iconst (v := 0) hC dX11_foretold_46 ?_
            refine pm_istore (lv' := [(5, (0, 0)), (4, (0, 0)), (0, (3, 0)), (1, (0, a1)), (2, (0, a2)), (3, (0, a3))]) hC dX11_foretold_47 (by decide) rfl ?_
            refine pm_iload hC 0 dX11_foretold_49 rfl ?_
            refine pm_if_gt (tgt := 56) hC ⟨by decide, by decide⟩ dX11_foretold_51 (by decide) (fun c104 => ?_) (fun c104 => ?_)
            · skip
              exfalso; omega
            · skip
              refine pm_iconst (v := (-1)) hC dX11_foretold_54 ?_
              exact pm_iret hC hR pm_nar0 ⟨(-1), rfl, ⟨by omega, by omega⟩, hV0, (pm_fr.rf (ws := [73, 74, 75, 76, 77]) (V := V0))⟩ dX11_foretold_55
          · skip
            exfalso; omega
        · skip
          refine pm_iconst (v := 1) hC dX11_foretold_26 ?_
          refine pm_goto (tgt := 31) hC dX11_foretold_27 (by decide) ?_
          refine pm_istore (lv' := [(4, (0, 1)), (0, (3, 0)), (1, (0, a1)), (2, (0, a2)), (3, (0, a3))]) hC dX11_foretold_31 (by decide) rfl ?_
          refine pm_iload hC 0 dX11_foretold_33 rfl ?_
          refine pm_if_eq (tgt := 46) hC ⟨by decide, by decide⟩ dX11_foretold_35 (by decide) (fun c105 => ?_) (fun c105 => ?_)
          · skip
            exfalso; omega
          · skip
            refine pm_aload_n hC 1 (by decide) dX11_foretold_38 rfl ?_
            refine pm_iload_n hC 3 dX11_foretold_39 rfl ?_
            refine pm_callV (ci := 11) (as := [(0, a2)]) (st := []) hC 0 (c_X11_countOfLand_0 a2 ⟨by omega, by omega⟩) lm_X11_288 li_X11_countOfLand (by decide) (by decide) rfl rfl rfl (by decide) rfl rfl (Nat.le_of_ble_eq_true rfl) ⟨Nat.le_refl _, Or.inl rfl⟩ dX11_foretold_40 ⟨rfl, hV0⟩ (fun r106 V107 hp108 => ?_)
            obtain ⟨y109, rfl, b110, rfl⟩ := hp108
            change pm_J X 43 [(4, (0, 1)), (0, (3, 0)), (1, (0, a1)), (2, (0, a2)), (3, (0, a3))] [(0, y109)] 118 V0
            refine pm_goto (tgt := 47) hC dX11_foretold_43 (by decide) ?_
            refine pm_istore (lv' := [(5, (0, y109)), (4, (0, 1)), (0, (3, 0)), (1, (0, a1)), (2, (0, a2)), (3, (0, a3))]) hC dX11_foretold_47 (by decide) rfl ?_
            refine pm_iload hC 0 dX11_foretold_49 rfl ?_
            refine pm_if_gt (tgt := 56) hC ⟨by omega, by omega⟩ dX11_foretold_51 (by decide) (fun c111 => ?_) (fun c111 => ?_)
            · skip
              refine pm_iconst (v := 0) hC dX11_foretold_56 ?_
              refine pm_istore (lv' := [(6, (0, 0)), (5, (0, y109)), (4, (0, 1)), (0, (3, 0)), (1, (0, a1)), (2, (0, a2)), (3, (0, a3))]) hC dX11_foretold_57 (by decide) rfl ?_
              refine pm_iconst (v := 0) hC dX11_foretold_59 ?_
              refine pm_istore (lv' := [(7, (0, 0)), (6, (0, 0)), (5, (0, y109)), (4, (0, 1)), (0, (3, 0)), (1, (0, a1)), (2, (0, a2)), (3, (0, a3))]) hC dX11_foretold_60 (by decide) rfl ?_
              have L119 : ∀ (N121 : Nat) (x112 : Int) (x114 : Int) (V116 : pm_M), ((-2147483648) ≤ x112 ∧ x112 ≤ 2147483647) → (0 ≤ x114 ∧ x114 ≤ 60) → pm_ok 0 90 V116 → pm_fr [73, 74, 75, 76, 77] V0 V116 → (Int.toNat (60 - x114)) = N121 → pm_J X 62 [(0, (3, 0)), (1, (0, a1)), (2, (0, a2)), (3, (0, a3)), (4, (0, 1)), (5, (0, y109)), (6, (0, x112)), (7, (0, x114))] [] 118 V116 := by
                intro N121
                induction N121 using Nat.strongRecOn with
                | _ N121 ih122 =>
                intro x112 x114 V116 b113 b115 hV117 hF118 hm120
                refine pm_iload hC 7 dX11_foretold_62 rfl ?_
                refine pm_aload_n hC 0 (by decide) dX11_foretold_64 rfl ?_
                have e123 : V116 0 3 = 4 := hV117.one 0 3 (by decide) (by decide) rfl
                refine pm_getf (v := 4) hC 0 fl_X11_24 rfl rfl (by decide) rfl e123 dX11_foretold_65 ?_
                obtain ⟨y124, e125⟩ : ∃ y, V116 4 6 = y := ⟨_, rfl⟩
                have b126 := hV117.get 4 6 (lo := 0) (hi := 60) (by decide) (by decide) rfl
                rw [e125] at b126
                refine pm_getf (v := y124) hC 4 fl_X11_162 rfl rfl (by decide) rfl e125 dX11_foretold_68 ?_
                refine pm_icmp_ge (tgt := 160) hC ⟨by omega, by omega⟩ ⟨by omega, by omega⟩ dX11_foretold_71 (by decide) (fun c127 => ?_) (fun c127 => ?_)
                · skip
                  refine pm_iload hC 6 dX11_foretold_160 rfl ?_
                  refine pm_iload hC 5 dX11_foretold_162 rfl ?_
                  refine pm_idivT hC ⟨by omega, by omega⟩ ⟨by omega, by omega⟩ (by omega) dX11_foretold_164 ?_
                  refine pm_some hC (fun y128 b129 => ?_)
                  have b129 := And.intro b129.1 b129.2
                  exact pm_iret hC hR pm_nar0 ⟨y128, rfl, ⟨by omega, by omega⟩, hV117, hF118⟩ dX11_foretold_165
                · skip
                  refine pm_aload_n hC 0 (by decide) dX11_foretold_74 rfl ?_
                  refine pm_iload hC 7 dX11_foretold_75 rfl ?_
                  refine pm_iload_n hC 2 dX11_foretold_77 rfl ?_
                  refine pm_callV (ci := 11) (as := [(0, x114), (0, a2)]) (st := []) hC 0 (c_X11_isOfLand_0 x114 a2 ⟨by omega, by omega⟩ ⟨by omega, by omega⟩) lm_X11_291 li_X11_isOfLand (by decide) (by decide) rfl rfl rfl (by decide) rfl rfl (Nat.le_of_ble_eq_true rfl) ⟨Nat.le_refl _, Or.inl rfl⟩ dX11_foretold_78 ⟨rfl, hV117⟩ (fun r130 V131 hp132 => ?_)
                  obtain ⟨y133, rfl, b134, rfl⟩ := hp132
                  change pm_J X 81 [(0, (3, 0)), (1, (0, a1)), (2, (0, a2)), (3, (0, a3)), (4, (0, 1)), (5, (0, y109)), (6, (0, x112)), (7, (0, x114))] [(0, y133)] 118 V116
                  refine pm_if_eq (tgt := 154) hC ⟨by omega, by omega⟩ dX11_foretold_81 (by decide) (fun c135 => ?_) (fun c135 => ?_)
                  · skip
                    obtain ⟨x136, ei137⟩ : ∃ y : Int, x114 + 1 = y := ⟨_, rfl⟩
                    refine pm_iinc (y := x136) (lv' := [(7, (0, x136)), (0, (3, 0)), (1, (0, a1)), (2, (0, a2)), (3, (0, a3)), (4, (0, 1)), (5, (0, y109)), (6, (0, x112))]) hC 7 dX11_foretold_154 (by decide) rfl ei137 rfl ?_
                    refine pm_goto (tgt := 62) hC dX11_foretold_157 (by decide) ?_
                    refine pm_lvsub [1, 2, 3, 4, 5, 6, 7, 0] (lv' := [(0, (3, 0)), (1, (0, a1)), (2, (0, a2)), (3, (0, a3)), (4, (0, 1)), (5, (0, y109)), (6, (0, x112)), (7, (0, x136))]) rfl ?_
                    exact ih122 _ (by omega) x112 x136 V116 ⟨by omega, by omega⟩ ⟨by omega, by omega⟩ hV117 hF118 rfl
                  · skip
                    refine pm_aload_n hC 0 (by decide) dX11_foretold_84 rfl ?_
                    refine pm_aload_n hC 0 (by decide) dX11_foretold_85 rfl ?_
                    refine pm_getf (v := 4) hC 0 fl_X11_24 rfl rfl (by decide) rfl e123 dX11_foretold_86 ?_
                    have e138 : V116 4 7 = 9 := hV117.one 4 7 (by decide) (by decide) rfl
                    refine pm_getf (v := 9) hC 4 fl_X11_243 rfl rfl (by decide) rfl e138 dX11_foretold_89 ?_
                    refine pm_iload hC 7 dX11_foretold_92 rfl ?_
                    obtain ⟨y139, e140⟩ : ∃ y, V116 9 (x114 : Int).toNat = y := ⟨_, rfl⟩
                    have b141 := hV117.get1 9 (x114 : Int).toNat (lo := 0) (hi := 999) (by decide) (show _ < 60 by omega) rfl
                    rw [e140] at b141
                    refine pm_iaload (len := 60) (v := y139) hC 9 rfl rfl (by decide) ⟨by omega, by omega⟩ (by decide) e140 dX11_foretold_94 ?_
                    refine pm_aload_n hC 0 (by decide) dX11_foretold_95 rfl ?_
                    refine pm_getf (v := 4) hC 0 fl_X11_24 rfl rfl (by decide) rfl e123 dX11_foretold_96 ?_
                    have e142 : V116 4 8 = 10 := hV117.one 4 8 (by decide) (by decide) rfl
                    refine pm_getf (v := 10) hC 4 fl_X11_246 rfl rfl (by decide) rfl e142 dX11_foretold_99 ?_
                    refine pm_iload hC 7 dX11_foretold_102 rfl ?_
                    obtain ⟨y143, e144⟩ : ∃ y, V116 10 (x114 : Int).toNat = y := ⟨_, rfl⟩
                    have b145 := hV117.get 10 (x114 : Int).toNat (lo := 0) (hi := 99) (by decide) (show _ < 60 by omega) rfl
                    rw [e144] at b145
                    refine pm_iaload (len := 60) (v := y143) hC 10 rfl rfl (by decide) ⟨by omega, by omega⟩ (by decide) e144 dX11_foretold_104 ?_
                    refine pm_aload_n hC 0 (by decide) dX11_foretold_105 rfl ?_
                    refine pm_getf (v := 4) hC 0 fl_X11_24 rfl rfl (by decide) rfl e123 dX11_foretold_106 ?_
                    have e146 : V116 4 9 = 11 := hV117.one 4 9 (by decide) (by decide) rfl
                    refine pm_getf (v := 11) hC 4 fl_X11_249 rfl rfl (by decide) rfl e146 dX11_foretold_109 ?_
                    refine pm_iload hC 7 dX11_foretold_112 rfl ?_
                    obtain ⟨y147, e148⟩ : ∃ y, V116 11 (x114 : Int).toNat = y := ⟨_, rfl⟩
                    have b149 := hV117.get 11 (x114 : Int).toNat (lo := (-99)) (hi := 99) (by decide) (show _ < 60 by omega) rfl
                    rw [e148] at b149
                    refine pm_iaload (len := 60) (v := y147) hC 11 rfl rfl (by decide) ⟨by omega, by omega⟩ (by decide) e148 dX11_foretold_114 ?_
                    refine pm_callV (ci := 11) (as := [(0, y139), (0, y143), (0, y147)]) (st := []) hC 0 (c_X11_pose_0 y139 y143 y147 ⟨by omega, by omega⟩ ⟨by omega, by omega⟩ ⟨by omega, by omega⟩ (by omega)) lm_X11_229 li_X11_pose (by decide) (by decide) rfl rfl rfl (by decide) rfl rfl (Nat.le_of_ble_eq_true rfl) ⟨Nat.le_refl _, Or.inl rfl⟩ dX11_foretold_115 ⟨rfl, hV117⟩ (fun r150 V151 hp152 => ?_)
                    obtain ⟨rfl, hV153, hF154⟩ := hp152
                    change pm_J X 118 [(0, (3, 0)), (1, (0, a1)), (2, (0, a2)), (3, (0, a3)), (4, (0, 1)), (5, (0, y109)), (6, (0, x112)), (7, (0, x114))] [] 118 V151
                    have hF155 := pm_fr.tr hF118 hF154 (by decide)
                    have e156 : V151 0 3 = 4 := by rw [hF154 0 (by decide)]; exact e123
                    have e157 : V151 4 6 = y124 := by rw [hF154 4 (by decide)]; exact e125
                    have e158 : V151 4 7 = 9 := by rw [hF154 4 (by decide)]; exact e138
                    have e159 : V151 4 8 = 10 := by rw [hF154 4 (by decide)]; exact e142
                    have e160 : V151 4 9 = 11 := by rw [hF154 4 (by decide)]; exact e146
                    refine pm_aload_n hC 0 (by decide) dX11_foretold_118 rfl ?_
                    have e161 : V151 0 5 = 73 := hV153.one 0 5 (by decide) (by decide) rfl
                    refine pm_getf (v := 73) hC 0 fl_X11_75 rfl rfl (by decide) rfl e161 dX11_foretold_119 ?_
                    refine pm_iload_n hC 1 dX11_foretold_122 rfl ?_
                    refine pm_callV (ci := 10) (as := [(0, a1)]) (st := []) hC 73 (c_X10_weigh_73 a1 ⟨by omega, by omega⟩) lm_X11_294 li_X10_weigh (by decide) (by decide) rfl rfl rfl (by decide) rfl rfl (Nat.le_of_ble_eq_true rfl) ⟨Nat.le_refl _, Or.inl rfl⟩ dX11_foretold_123 ⟨rfl, hV153⟩ (fun r162 V163 hp164 => ?_)
                    obtain ⟨rfl, hV165, hF166⟩ := hp164
                    change pm_J X 126 [(0, (3, 0)), (1, (0, a1)), (2, (0, a2)), (3, (0, a3)), (4, (0, 1)), (5, (0, y109)), (6, (0, x112)), (7, (0, x114))] [] 118 V163
                    have hF167 := pm_fr.tr hF155 hF166 (by decide)
                    have e168 : V163 0 3 = 4 := by rw [hF166 0 (by decide)]; exact e156
                    have e169 : V163 4 6 = y124 := by rw [hF166 4 (by decide)]; exact e157
                    have e170 : V163 4 7 = 9 := by rw [hF166 4 (by decide)]; exact e158
                    have e171 : V163 4 8 = 10 := by rw [hF166 4 (by decide)]; exact e159
                    have e172 : V163 4 9 = 11 := by rw [hF166 4 (by decide)]; exact e160
                    have e173 : V163 0 5 = 73 := by rw [hF166 0 (by decide)]; exact e161
                    refine pm_iload hC 6 dX11_foretold_126 rfl ?_
                    refine pm_iload_n hC 3 dX11_foretold_128 rfl ?_
                    refine pm_iconst (v := 4) hC dX11_foretold_129 ?_
                    refine pm_icmp_ne (tgt := 143) hC ⟨by omega, by omega⟩ ⟨by decide, by decide⟩ dX11_foretold_130 (by decide) (fun c174 => ?_) (fun c174 => ?_)
                    · skip
                      exfalso; omega
                    · skip
                      refine pm_aload_n hC 0 (by decide) dX11_foretold_133 rfl ?_
                      refine pm_getf (v := 73) hC 0 fl_X11_75 rfl rfl (by decide) rfl e173 dX11_foretold_134 ?_
                      refine pm_callV (ci := 10) (as := []) (st := [(0, x112)]) hC 73 c_X10_chanceNoticed_73 lm_X11_233 li_X10_chanceNoticed (by decide) (by decide) rfl rfl rfl (by decide) rfl rfl (Nat.le_of_ble_eq_true rfl) ⟨Nat.le_refl _, Or.inl rfl⟩ dX11_foretold_137 ⟨rfl, hV165⟩ (fun r175 V176 hp177 => ?_)
                      obtain ⟨y178, rfl, b179, rfl⟩ := hp177
                      change pm_J X 140 [(0, (3, 0)), (1, (0, a1)), (2, (0, a2)), (3, (0, a3)), (4, (0, 1)), (5, (0, y109)), (6, (0, x112)), (7, (0, x114))] [(0, y178), (0, x112)] 118 V163
                      refine pm_goto (tgt := 151) hC dX11_foretold_140 (by decide) ?_
                      refine pm_iadd hC dX11_foretold_151 ?_
                      refine pm_some hC (fun y180 b181 => ?_)
                      have b181 := And.intro b181.1 b181.2
                      refine pm_istore (lv' := [(6, (0, y180)), (0, (3, 0)), (1, (0, a1)), (2, (0, a2)), (3, (0, a3)), (4, (0, 1)), (5, (0, y109)), (7, (0, x114))]) hC dX11_foretold_152 (by decide) rfl ?_
                      obtain ⟨x182, ei183⟩ : ∃ y : Int, x114 + 1 = y := ⟨_, rfl⟩
                      refine pm_iinc (y := x182) (lv' := [(7, (0, x182)), (6, (0, y180)), (0, (3, 0)), (1, (0, a1)), (2, (0, a2)), (3, (0, a3)), (4, (0, 1)), (5, (0, y109))]) hC 7 dX11_foretold_154 (by decide) rfl ei183 rfl ?_
                      refine pm_goto (tgt := 62) hC dX11_foretold_157 (by decide) ?_
                      refine pm_lvsub [2, 3, 4, 5, 6, 7, 1, 0] (lv' := [(0, (3, 0)), (1, (0, a1)), (2, (0, a2)), (3, (0, a3)), (4, (0, 1)), (5, (0, y109)), (6, (0, y180)), (7, (0, x182))]) rfl ?_
                      exact ih122 _ (by omega) y180 x182 V163 ⟨by omega, by omega⟩ ⟨by omega, by omega⟩ hV165 hF167 rfl
              refine pm_lvsub [4, 5, 6, 7, 3, 2, 1, 0] (lv' := [(0, (3, 0)), (1, (0, a1)), (2, (0, a2)), (3, (0, a3)), (4, (0, 1)), (5, (0, y109)), (6, (0, 0)), (7, (0, 0))]) rfl ?_
              exact L119 _ 0 0 V0 ⟨by decide, by decide⟩ ⟨by decide, by decide⟩ hV0 (pm_fr.rf (ws := [73, 74, 75, 76, 77]) (V := V0)) rfl
            · skip
              refine pm_iconst (v := (-1)) hC dX11_foretold_54 ?_
              exact pm_iret hC hR pm_nar0 ⟨(-1), rfl, ⟨by omega, by omega⟩, hV0, (pm_fr.rf (ws := [73, 74, 75, 76, 77]) (V := V0))⟩ dX11_foretold_55
set_option maxHeartbeats 4000000 in
set_option maxRecDepth 100000 in
theorem c_X11_isPair_0 (a1 a2 a3 a4 : Int) (h0 : 0 ≤ a1 ∧ a1 ≤ 2147483647) (h1 : 0 ≤ a2 ∧ a2 ≤ 999) (h2 : 0 ≤ a3 ∧ a3 ≤ 99) (h3 : (-99) ≤ a4 ∧ a4 ≤ 99) (h4 : a2 % 10 ≤ 8 ∧ a2 / 10 % 10 ≤ 8) : pm_K 5 yX11_isPair cX11_isPair 7 (some .boolean) (fun av V => av = [(3, 0), (0, a1), (0, a2), (0, a3), (0, a4)] ∧ pm_ok 0 90 V) (fun _ V r V' => ∃ y, r = some (0, y) ∧ (0 ≤ y ∧ y ≤ 1) ∧ pm_ok 0 90 V' ∧ pm_fr [73, 74, 75, 76, 77] V V') := by
  refine pm_MT.of (by decide) ⟨Nat.le_refl _, by decide⟩ (fun av V h => by rw [h.1]; exact (by decide : pm_words [(3, 0), (0, 0), (0, 0), (0, 0), (0, 0)] ≤ 7)) ?_
  rintro X av V0 hC - hR ⟨rfl, hV0⟩
  change pm_J X 0 [(0, (3, 0)), (1, (0, a1)), (2, (0, a2)), (3, (0, a3)), (4, (0, a4))] [] 118 V0
  refine pm_iload_n hC 2 dX11_isPair_0 rfl ?_
  refine pm_bipush (v := 10) hC dX11_isPair_1 (by decide) ?_
  refine pm_idiv hC ⟨by omega, by omega, by omega⟩ ⟨by decide, by decide, by decide⟩ dX11_isPair_3 ?_
  refine pm_bipush (v := 10) hC dX11_isPair_4 (by decide) ?_
  refine pm_irem hC ⟨by omega, by omega, by omega⟩ ⟨by decide, by decide, by decide⟩ dX11_isPair_6 ?_
  refine pm_istore (lv' := [(5, (0, ((a2 / 10) % 10))), (0, (3, 0)), (1, (0, a1)), (2, (0, a2)), (3, (0, a3)), (4, (0, a4))]) hC dX11_isPair_7 (by decide) rfl ?_
  refine pm_iload_n hC 3 dX11_isPair_9 rfl ?_
  refine pm_bipush (v := 10) hC dX11_isPair_10 (by decide) ?_
  refine pm_irem hC ⟨by omega, by omega, by omega⟩ ⟨by decide, by decide, by decide⟩ dX11_isPair_12 ?_
  refine pm_istore (lv' := [(6, (0, (a2 % 10))), (5, (0, ((a2 / 10) % 10))), (0, (3, 0)), (1, (0, a1)), (2, (0, a2)), (3, (0, a3)), (4, (0, a4))]) hC dX11_isPair_13 (by decide) rfl ?_
  refine pm_iload hC 1 dX11_isPair_15 rfl ?_
  refine pm_iload hC 0 dX11_isPair_17 rfl ?_
  refine pm_icmp_ne (tgt := 24) hC ⟨by omega, by omega⟩ ⟨by omega, by omega⟩ dX11_isPair_19 (by decide) (fun c1 => ?_) (fun c1 => ?_)
  · skip
    refine pm_aload_n hC 2 (by decide) dX11_isPair_24 rfl ?_
    refine pm_iload_n hC 4 dX11_isPair_25 rfl ?_
    refine pm_iload_n hC 5 dX11_isPair_26 rfl ?_
    refine pm_iload hC 6 dX11_isPair_27 rfl ?_
    refine pm_callV (ci := 11) (as := [(0, a2), (0, a3), (0, a4)]) (st := []) hC 0 (c_X11_pose_0 a2 a3 a4 ⟨by omega, by omega⟩ ⟨by omega, by omega⟩ ⟨by omega, by omega⟩ (by omega)) lm_X11_229 li_X11_pose (by decide) (by decide) rfl rfl rfl (by decide) rfl rfl (Nat.le_of_ble_eq_true rfl) ⟨Nat.le_refl _, Or.inl rfl⟩ dX11_isPair_29 ⟨rfl, hV0⟩ (fun r2 V3 hp4 => ?_)
    obtain ⟨rfl, hV5, hF6⟩ := hp4
    change pm_J X 32 [(6, (0, (a2 % 10))), (5, (0, ((a2 / 10) % 10))), (0, (3, 0)), (1, (0, a1)), (2, (0, a2)), (3, (0, a3)), (4, (0, a4))] [] 118 V3
    have hF7 := pm_fr.tr (pm_fr.rf (ws := [73, 74, 75, 76, 77]) (V := V0)) hF6 (by decide)
    refine pm_aload_n hC 2 (by decide) dX11_isPair_32 rfl ?_
    have e8 : V3 0 5 = 73 := hV5.one 0 5 (by decide) (by decide) rfl
    refine pm_getf (v := 73) hC 0 fl_X11_75 rfl rfl (by decide) rfl e8 dX11_isPair_33 ?_
    refine pm_iload_n hC 3 dX11_isPair_36 rfl ?_
    refine pm_bipush (v := 10) hC dX11_isPair_37 (by decide) ?_
    refine pm_irem hC ⟨by omega, by omega, by omega⟩ ⟨by decide, by decide, by decide⟩ dX11_isPair_39 ?_
    refine pm_callV (ci := 10) (as := [(0, (a1 % 10))]) (st := []) hC 73 (c_X10_weigh_73 (a1 % 10) ⟨by omega, by omega⟩) lm_X11_294 li_X10_weigh (by decide) (by decide) rfl rfl rfl (by decide) rfl rfl (Nat.le_of_ble_eq_true rfl) ⟨Nat.le_refl _, Or.inl rfl⟩ dX11_isPair_40 ⟨rfl, hV5⟩ (fun r9 V10 hp11 => ?_)
    obtain ⟨rfl, hV12, hF13⟩ := hp11
    change pm_J X 43 [(6, (0, (a2 % 10))), (5, (0, ((a2 / 10) % 10))), (0, (3, 0)), (1, (0, a1)), (2, (0, a2)), (3, (0, a3)), (4, (0, a4))] [] 118 V10
    have hF14 := pm_fr.tr hF7 hF13 (by decide)
    have e15 : V10 0 5 = 73 := by rw [hF13 0 (by decide)]; exact e8
    refine pm_iload hC 1 dX11_isPair_43 rfl ?_
    refine pm_iload hC 0 dX11_isPair_45 rfl ?_
    refine pm_aload_n hC 2 (by decide) dX11_isPair_47 rfl ?_
    refine pm_getf (v := 73) hC 0 fl_X11_75 rfl rfl (by decide) rfl e15 dX11_isPair_48 ?_
    refine pm_callV (ci := 10) (as := []) (st := [(0, (a2 % 10)), (0, ((a2 / 10) % 10))]) hC 73 c_X10_mostLikely_73 lm_X11_221 li_X10_mostLikely (by decide) (by decide) rfl rfl rfl (by decide) rfl rfl (Nat.le_of_ble_eq_true rfl) ⟨Nat.le_refl _, Or.inl rfl⟩ dX11_isPair_51 ⟨rfl, hV12⟩ (fun r16 V17 hp18 => ?_)
    obtain ⟨y19, rfl, b20, rfl⟩ := hp18
    change pm_J X 54 [(6, (0, (a2 % 10))), (5, (0, ((a2 / 10) % 10))), (0, (3, 0)), (1, (0, a1)), (2, (0, a2)), (3, (0, a3)), (4, (0, a4))] [(0, y19), (0, (a2 % 10)), (0, ((a2 / 10) % 10))] 118 V10
    refine pm_callS (as := [(0, ((a2 / 10) % 10)), (0, (a2 % 10)), (0, y19)]) (st := []) hC (c_X11_kindOfSaid ((a2 / 10) % 10) (a2 % 10) y19 ⟨by omega, by omega⟩ ⟨by omega, by omega⟩ ⟨by omega, by omega⟩) lm_X11_351 ls_X11_kindOfSaid (by decide) (by decide) rfl rfl (Nat.le_of_ble_eq_true rfl) ⟨Nat.le_refl _, Or.inl rfl⟩ dX11_isPair_54 ⟨rfl, hV12⟩ (fun r21 V22 hp23 => ?_)
    obtain ⟨y24, rfl, b25, rfl⟩ := hp23
    change pm_J X 57 [(6, (0, (a2 % 10))), (5, (0, ((a2 / 10) % 10))), (0, (3, 0)), (1, (0, a1)), (2, (0, a2)), (3, (0, a3)), (4, (0, a4))] [(0, y24)] 118 V10
    refine pm_iload_n hC 3 dX11_isPair_57 rfl ?_
    refine pm_bipush (v := 10) hC dX11_isPair_58 (by decide) ?_
    refine pm_idiv hC ⟨by omega, by omega, by omega⟩ ⟨by decide, by decide, by decide⟩ dX11_isPair_60 ?_
    refine pm_icmp_ne (tgt := 68) hC ⟨by omega, by omega⟩ ⟨by omega, by omega⟩ dX11_isPair_61 (by decide) (fun c26 => ?_) (fun c26 => ?_)
    · skip
      refine pm_iconst (v := 0) hC dX11_isPair_68 ?_
      exact pm_iret hC hR (pm_narZ (by omega)) ⟨0, rfl, ⟨by omega, by omega⟩, hV12, hF14⟩ dX11_isPair_69
    · skip
      refine pm_iconst (v := 1) hC dX11_isPair_64 ?_
      refine pm_goto (tgt := 69) hC dX11_isPair_65 (by decide) ?_
      exact pm_iret hC hR (pm_narZ (by omega)) ⟨1, rfl, ⟨by omega, by omega⟩, hV12, hF14⟩ dX11_isPair_69
  · skip
    refine pm_iconst (v := 0) hC dX11_isPair_22 ?_
    exact pm_iret hC hR (pm_narZ (by omega)) ⟨0, rfl, ⟨by omega, by omega⟩, hV0, (pm_fr.rf (ws := [73, 74, 75, 76, 77]) (V := V0))⟩ dX11_isPair_23
set_option maxHeartbeats 4000000 in
set_option maxRecDepth 100000 in
theorem c_X11_pairs_0 (a1 a2 a3 a4 a5 : Int) (h0 : (-2147483648) ≤ a1 ∧ a1 ≤ 2147483647) (h1 : (-2147483648) ≤ a2 ∧ a2 ≤ 2147483647) (h2 : (-2147483648) ≤ a3 ∧ a3 ≤ 2147483647) (h3 : (-2147483648) ≤ a4 ∧ a4 ≤ 2147483647) (h4 : (-2147483648) ≤ a5 ∧ a5 ≤ 2147483647) : pm_K 6 yX11_pairs cX11_pairs 10 (some .int) (fun av V => av = [(3, 0), (0, a1), (0, a2), (0, a3), (0, a4), (0, a5)] ∧ pm_ok 0 90 V) (fun _ V r V' => ∃ y, r = some (0, y) ∧ ((-1) ≤ y ∧ y ≤ 88) ∧ pm_ok 0 90 V' ∧ pm_fr [73, 74, 75, 76, 77] V V') := by
  refine pm_MT.of (by decide) ⟨Nat.le_refl _, by decide⟩ (fun av V h => by rw [h.1]; exact (by decide : pm_words [(3, 0), (0, 0), (0, 0), (0, 0), (0, 0), (0, 0)] ≤ 10)) ?_
  rintro X av V0 hC - hR ⟨rfl, hV0⟩
  change pm_J X 0 [(0, (3, 0)), (1, (0, a1)), (2, (0, a2)), (3, (0, a3)), (4, (0, a4)), (5, (0, a5))] [] 118 V0
  refine pm_iload_n hC 1 dX11_pairs_0 rfl ?_
  refine pm_if_lt (tgt := 34) hC ⟨by omega, by omega⟩ dX11_pairs_1 (by decide) (fun c1 => ?_) (fun c1 => ?_)
  · skip
    refine pm_iconst (v := 0) hC dX11_pairs_34 ?_
    refine pm_istore (lv' := [(6, (0, 0)), (0, (3, 0)), (1, (0, a1)), (2, (0, a2)), (3, (0, a3)), (4, (0, a4)), (5, (0, a5))]) hC dX11_pairs_35 (by decide) rfl ?_
    refine pm_iload hC 0 dX11_pairs_37 rfl ?_
    refine pm_if_eq (tgt := 65) hC ⟨by decide, by decide⟩ dX11_pairs_39 (by decide) (fun c2 => ?_) (fun c2 => ?_)
    · skip
      refine pm_iconst (v := (-1)) hC dX11_pairs_65 ?_
      exact pm_iret hC hR pm_nar0 ⟨(-1), rfl, ⟨by omega, by omega⟩, hV0, (pm_fr.rf (ws := [73, 74, 75, 76, 77]) (V := V0))⟩ dX11_pairs_66
    · skip
      exfalso; omega
  · skip
    refine pm_iload_n hC 1 dX11_pairs_4 rfl ?_
    refine pm_bipush (v := 10) hC dX11_pairs_5 (by decide) ?_
    refine pm_idiv hC ⟨by omega, by omega, by omega⟩ ⟨by decide, by decide, by decide⟩ dX11_pairs_7 ?_
    refine pm_callS (as := [(0, (a1 / 10))]) (st := []) hC (c_X11_isKind (a1 / 10) ⟨by omega, by omega⟩) lm_X11_215 ls_X11_isKind (by decide) (by decide) rfl rfl (Nat.le_of_ble_eq_true rfl) ⟨Nat.le_refl _, Or.inl rfl⟩ dX11_pairs_8 ⟨rfl, hV0⟩ (fun r3 V4 hp5 => ?_)
    obtain ⟨y6, rfl, b7, rfl⟩ := hp5
    change pm_J X 11 [(0, (3, 0)), (1, (0, a1)), (2, (0, a2)), (3, (0, a3)), (4, (0, a4)), (5, (0, a5))] [(0, y6)] 118 V0
    refine pm_if_eq (tgt := 34) hC ⟨by omega, by omega⟩ dX11_pairs_11 (by decide) (fun c8 => ?_) (fun c8 => ?_)
    · skip
      refine pm_iconst (v := 0) hC dX11_pairs_34 ?_
      refine pm_istore (lv' := [(6, (0, 0)), (0, (3, 0)), (1, (0, a1)), (2, (0, a2)), (3, (0, a3)), (4, (0, a4)), (5, (0, a5))]) hC dX11_pairs_35 (by decide) rfl ?_
      refine pm_iload hC 0 dX11_pairs_37 rfl ?_
      refine pm_if_eq (tgt := 65) hC ⟨by decide, by decide⟩ dX11_pairs_39 (by decide) (fun c9 => ?_) (fun c9 => ?_)
      · skip
        refine pm_iconst (v := (-1)) hC dX11_pairs_65 ?_
        exact pm_iret hC hR pm_nar0 ⟨(-1), rfl, ⟨by omega, by omega⟩, hV0, (pm_fr.rf (ws := [73, 74, 75, 76, 77]) (V := V0))⟩ dX11_pairs_66
      · skip
        exfalso; omega
    · skip
      refine pm_iload_n hC 1 dX11_pairs_14 rfl ?_
      refine pm_bipush (v := 10) hC dX11_pairs_15 (by decide) ?_
      refine pm_irem hC ⟨by omega, by omega, by omega⟩ ⟨by decide, by decide, by decide⟩ dX11_pairs_17 ?_
      refine pm_callS (as := [(0, (a1 % 10))]) (st := []) hC (c_X11_isLaw (a1 % 10) ⟨by omega, by omega⟩) lm_X11_262 ls_X11_isLaw (by decide) (by decide) rfl rfl (Nat.le_of_ble_eq_true rfl) ⟨Nat.le_refl _, Or.inl rfl⟩ dX11_pairs_18 ⟨rfl, hV0⟩ (fun r10 V11 hp12 => ?_)
      obtain ⟨y13, rfl, b14, rfl⟩ := hp12
      change pm_J X 21 [(0, (3, 0)), (1, (0, a1)), (2, (0, a2)), (3, (0, a3)), (4, (0, a4)), (5, (0, a5))] [(0, y13)] 118 V0
      refine pm_if_eq (tgt := 34) hC ⟨by omega, by omega⟩ dX11_pairs_21 (by decide) (fun c15 => ?_) (fun c15 => ?_)
      · skip
        refine pm_iconst (v := 0) hC dX11_pairs_34 ?_
        refine pm_istore (lv' := [(6, (0, 0)), (0, (3, 0)), (1, (0, a1)), (2, (0, a2)), (3, (0, a3)), (4, (0, a4)), (5, (0, a5))]) hC dX11_pairs_35 (by decide) rfl ?_
        refine pm_iload hC 0 dX11_pairs_37 rfl ?_
        refine pm_if_eq (tgt := 65) hC ⟨by decide, by decide⟩ dX11_pairs_39 (by decide) (fun c16 => ?_) (fun c16 => ?_)
        · skip
          refine pm_iconst (v := (-1)) hC dX11_pairs_65 ?_
          exact pm_iret hC hR pm_nar0 ⟨(-1), rfl, ⟨by omega, by omega⟩, hV0, (pm_fr.rf (ws := [73, 74, 75, 76, 77]) (V := V0))⟩ dX11_pairs_66
        · skip
          exfalso; omega
      · skip
        refine pm_iload hC 5 dX11_pairs_24 rfl ?_
        refine pm_iconst (v := (-1)) hC dX11_pairs_26 ?_
        refine pm_icmp_lt (tgt := 34) hC ⟨by omega, by omega⟩ ⟨by decide, by decide⟩ dX11_pairs_27 (by decide) (fun c17 => ?_) (fun c17 => ?_)
        · skip
          refine pm_iconst (v := 0) hC dX11_pairs_34 ?_
          refine pm_istore (lv' := [(6, (0, 0)), (0, (3, 0)), (1, (0, a1)), (2, (0, a2)), (3, (0, a3)), (4, (0, a4)), (5, (0, a5))]) hC dX11_pairs_35 (by decide) rfl ?_
          refine pm_iload hC 0 dX11_pairs_37 rfl ?_
          refine pm_if_eq (tgt := 65) hC ⟨by decide, by decide⟩ dX11_pairs_39 (by decide) (fun c18 => ?_) (fun c18 => ?_)
          · skip
            refine pm_iconst (v := (-1)) hC dX11_pairs_65 ?_
            exact pm_iret hC hR pm_nar0 ⟨(-1), rfl, ⟨by omega, by omega⟩, hV0, (pm_fr.rf (ws := [73, 74, 75, 76, 77]) (V := V0))⟩ dX11_pairs_66
          · skip
            exfalso; omega
        · skip
          refine pm_iconst (v := 1) hC dX11_pairs_30 ?_
          refine pm_goto (tgt := 35) hC dX11_pairs_31 (by decide) ?_
          refine pm_istore (lv' := [(6, (0, 1)), (0, (3, 0)), (1, (0, a1)), (2, (0, a2)), (3, (0, a3)), (4, (0, a4)), (5, (0, a5))]) hC dX11_pairs_35 (by decide) rfl ?_
          refine pm_iload hC 0 dX11_pairs_37 rfl ?_
          refine pm_if_eq (tgt := 65) hC ⟨by decide, by decide⟩ dX11_pairs_39 (by decide) (fun c19 => ?_) (fun c19 => ?_)
          · skip
            exfalso; omega
          · skip
            refine pm_aload_n hC 1 (by decide) dX11_pairs_42 rfl ?_
            refine pm_iload_n hC 3 dX11_pairs_43 rfl ?_
            refine pm_callV (ci := 11) (as := [(0, a2)]) (st := []) hC 0 (c_X11_isPerson_0 a2 ⟨by omega, by omega⟩) lm_X11_183 li_X11_isPerson (by decide) (by decide) rfl rfl rfl (by decide) rfl rfl (Nat.le_of_ble_eq_true rfl) ⟨Nat.le_refl _, Or.inl rfl⟩ dX11_pairs_44 ⟨rfl, hV0⟩ (fun r20 V21 hp22 => ?_)
            obtain ⟨y23, rfl, b24, rfl⟩ := hp22
            change pm_J X 47 [(6, (0, 1)), (0, (3, 0)), (1, (0, a1)), (2, (0, a2)), (3, (0, a3)), (4, (0, a4)), (5, (0, a5))] [(0, y23)] 118 V0
            refine pm_if_eq (tgt := 65) hC ⟨by omega, by omega⟩ dX11_pairs_47 (by decide) (fun c25 => ?_) (fun c25 => ?_)
            · skip
              refine pm_iconst (v := (-1)) hC dX11_pairs_65 ?_
              exact pm_iret hC hR pm_nar0 ⟨(-1), rfl, ⟨by omega, by omega⟩, hV0, (pm_fr.rf (ws := [73, 74, 75, 76, 77]) (V := V0))⟩ dX11_pairs_66
            · skip
              refine pm_iload_n hC 4 dX11_pairs_50 rfl ?_
              refine pm_callS (as := [(0, a3)]) (st := []) hC (c_X11_isSetting a3 ⟨by omega, by omega⟩) lm_X11_297 ls_X11_isSetting (by decide) (by decide) rfl rfl (Nat.le_of_ble_eq_true rfl) ⟨Nat.le_refl _, Or.inl rfl⟩ dX11_pairs_51 ⟨rfl, hV0⟩ (fun r26 V27 hp28 => ?_)
              obtain ⟨y29, rfl, b30, rfl⟩ := hp28
              change pm_J X 54 [(6, (0, 1)), (0, (3, 0)), (1, (0, a1)), (2, (0, a2)), (3, (0, a3)), (4, (0, a4)), (5, (0, a5))] [(0, y29)] 118 V0
              refine pm_if_eq (tgt := 65) hC ⟨by omega, by omega⟩ dX11_pairs_54 (by decide) (fun c31 => ?_) (fun c31 => ?_)
              · skip
                refine pm_iconst (v := (-1)) hC dX11_pairs_65 ?_
                exact pm_iret hC hR pm_nar0 ⟨(-1), rfl, ⟨by omega, by omega⟩, hV0, (pm_fr.rf (ws := [73, 74, 75, 76, 77]) (V := V0))⟩ dX11_pairs_66
              · skip
                refine pm_iload hC 5 dX11_pairs_57 rfl ?_
                refine pm_callS (as := [(0, a4)]) (st := []) hC (c_X11_isLate a4 ⟨by omega, by omega⟩) lm_X11_300 ls_X11_isLate (by decide) (by decide) rfl rfl (Nat.le_of_ble_eq_true rfl) ⟨Nat.le_refl _, Or.inl rfl⟩ dX11_pairs_59 ⟨rfl, hV0⟩ (fun r32 V33 hp34 => ?_)
                obtain ⟨y35, rfl, b36, rfl⟩ := hp34
                change pm_J X 62 [(6, (0, 1)), (0, (3, 0)), (1, (0, a1)), (2, (0, a2)), (3, (0, a3)), (4, (0, a4)), (5, (0, a5))] [(0, y35)] 118 V0
                refine pm_if_ne (tgt := 67) hC ⟨by omega, by omega⟩ dX11_pairs_62 (by decide) (fun c37 => ?_) (fun c37 => ?_)
                · skip
                  refine pm_iconst (v := 0) hC dX11_pairs_67 ?_
                  refine pm_istore (lv' := [(7, (0, 0)), (6, (0, 1)), (0, (3, 0)), (1, (0, a1)), (2, (0, a2)), (3, (0, a3)), (4, (0, a4)), (5, (0, a5))]) hC dX11_pairs_68 (by decide) rfl ?_
                  refine pm_iconst (v := 0) hC dX11_pairs_70 ?_
                  refine pm_istore (lv' := [(8, (0, 0)), (7, (0, 0)), (6, (0, 1)), (0, (3, 0)), (1, (0, a1)), (2, (0, a2)), (3, (0, a3)), (4, (0, a4)), (5, (0, a5))]) hC dX11_pairs_71 (by decide) rfl ?_
                  have L46 : ∀ (N48 : Nat) (x38 : Int) (x40 : Int) (V43 : pm_M), (0 ≤ x38 ∧ x38 ≤ 81) → (0 ≤ x40 ∧ x40 ≤ 9) → (x38 ≤ 9 * x40) → pm_ok 0 90 V43 → pm_fr [73, 74, 75, 76, 77] V0 V43 → (Int.toNat (9 - x40)) = N48 → pm_J X 73 [(0, (3, 0)), (1, (0, a1)), (2, (0, a2)), (3, (0, a3)), (4, (0, a4)), (5, (0, a5)), (6, (0, 1)), (7, (0, x38)), (8, (0, x40))] [] 118 V43 := by
                    intro N48
                    induction N48 using Nat.strongRecOn with
                    | _ N48 ih49 =>
                    intro x38 x40 V43 b39 b41 b42 hV44 hF45 hm47
                    refine pm_iload hC 8 dX11_pairs_73 rfl ?_
                    refine pm_aload_n hC 0 (by decide) dX11_pairs_75 rfl ?_
                    rcases hV44.get2 0 8 (lo := 45) (hi := 51) (by decide) (by decide) rfl with e50 | e50
                    · skip
                      refine pm_getf (v := 45) hC 0 fl_X11_35 rfl rfl (by decide) rfl e50 dX11_pairs_76 ?_
                      obtain ⟨y51, e52⟩ : ∃ y, V43 45 0 = y := ⟨_, rfl⟩
                      have b53 := hV44.get 45 0 (lo := 0) (hi := 9) (by decide) (by decide) rfl
                      rw [e52] at b53
                      refine pm_getf (v := y51) hC 45 fl_X11_136 rfl rfl (by decide) rfl e52 dX11_pairs_79 ?_
                      refine pm_icmp_ge (tgt := 155) hC ⟨by omega, by omega⟩ ⟨by omega, by omega⟩ dX11_pairs_82 (by decide) (fun c54 => ?_) (fun c54 => ?_)
                      · skip
                        refine pm_iload hC 5 dX11_pairs_155 rfl ?_
                        refine pm_iconst (v := (-1)) hC dX11_pairs_157 ?_
                        refine pm_icmp_ne (tgt := 166) hC ⟨by omega, by omega⟩ ⟨by decide, by decide⟩ dX11_pairs_158 (by decide) (fun c55 => ?_) (fun c55 => ?_)
                        · skip
                          refine pm_iconst (v := (-1)) hC dX11_pairs_166 ?_
                          exact pm_iret hC hR pm_nar0 ⟨(-1), rfl, ⟨by omega, by omega⟩, hV44, hF45⟩ dX11_pairs_167
                        · skip
                          refine pm_iload hC 7 dX11_pairs_161 rfl ?_
                          refine pm_goto (tgt := 167) hC dX11_pairs_163 (by decide) ?_
                          exact pm_iret hC hR pm_nar0 ⟨x38, rfl, ⟨by omega, by omega⟩, hV44, hF45⟩ dX11_pairs_167
                      · skip
                        refine pm_iconst (v := 0) hC dX11_pairs_85 ?_
                        refine pm_istore (lv' := [(9, (0, 0)), (0, (3, 0)), (1, (0, a1)), (2, (0, a2)), (3, (0, a3)), (4, (0, a4)), (5, (0, a5)), (6, (0, 1)), (7, (0, x38)), (8, (0, x40))]) hC dX11_pairs_86 (by decide) rfl ?_
                        have L66 : ∀ (N68 : Nat) (x56 : Int) (x58 : Int) (V61 : pm_M), (0 ≤ x56 ∧ x56 ≤ 81) → (0 ≤ x58 ∧ x58 ≤ 9) → (x56 ≤ 9 * x40 + x58) → pm_ok 0 90 V61 → pm_fr [73, 74, 75, 76, 77] V0 V61 → V61 0 8 = 45 → V61 45 0 = y51 → (Int.toNat (9 - x58)) = N68 → pm_J X 88 [(0, (3, 0)), (1, (0, a1)), (2, (0, a2)), (3, (0, a3)), (4, (0, a4)), (5, (0, a5)), (6, (0, 1)), (7, (0, x56)), (8, (0, x40)), (9, (0, x58))] [] 118 V61 := by
                          intro N68
                          induction N68 using Nat.strongRecOn with
                          | _ N68 ih69 =>
                          intro x56 x58 V61 b57 b59 b60 hV62 hF63 e64 e65 hm67
                          refine pm_iload hC 9 dX11_pairs_88 rfl ?_
                          refine pm_aload_n hC 0 (by decide) dX11_pairs_90 rfl ?_
                          refine pm_getf (v := 45) hC 0 fl_X11_35 rfl rfl (by decide) rfl e64 dX11_pairs_91 ?_
                          refine pm_getf (v := y51) hC 45 fl_X11_136 rfl rfl (by decide) rfl e65 dX11_pairs_94 ?_
                          refine pm_icmp_ge (tgt := 149) hC ⟨by omega, by omega⟩ ⟨by omega, by omega⟩ dX11_pairs_97 (by decide) (fun c70 => ?_) (fun c70 => ?_)
                          · skip
                            obtain ⟨x71, ei72⟩ : ∃ y : Int, x40 + 1 = y := ⟨_, rfl⟩
                            refine pm_iinc (y := x71) (lv' := [(8, (0, x71)), (0, (3, 0)), (1, (0, a1)), (2, (0, a2)), (3, (0, a3)), (4, (0, a4)), (5, (0, a5)), (6, (0, 1)), (7, (0, x56)), (9, (0, x58))]) hC 8 dX11_pairs_149 (by decide) rfl ei72 rfl ?_
                            refine pm_goto (tgt := 73) hC dX11_pairs_152 (by decide) ?_
                            refine pm_lvsub [1, 2, 3, 4, 5, 6, 7, 8, 0] (lv' := [(0, (3, 0)), (1, (0, a1)), (2, (0, a2)), (3, (0, a3)), (4, (0, a4)), (5, (0, a5)), (6, (0, 1)), (7, (0, x56)), (8, (0, x71))]) rfl ?_
                            exact ih49 _ (by omega) x56 x71 V61 ⟨by omega, by omega⟩ ⟨by omega, by omega⟩ (by omega) hV62 hF63 rfl
                          · skip
                            refine pm_aload_n hC 0 (by decide) dX11_pairs_100 rfl ?_
                            refine pm_iload_n hC 1 dX11_pairs_101 rfl ?_
                            refine pm_iload_n hC 2 dX11_pairs_102 rfl ?_
                            refine pm_bipush (v := 100) hC dX11_pairs_103 (by decide) ?_
                            refine pm_imul hC dX11_pairs_105 ?_
                            refine pm_iload hC 8 dX11_pairs_106 rfl ?_
                            refine pm_bipush (v := 10) hC dX11_pairs_108 (by decide) ?_
                            refine pm_imul hC dX11_pairs_110 ?_
                            refine pm_iadd hC dX11_pairs_111 ?_
                            refine pm_iload hC 9 dX11_pairs_112 rfl ?_
                            refine pm_iadd hC dX11_pairs_114 ?_
                            refine pm_iload_n hC 3 dX11_pairs_115 rfl ?_
                            refine pm_iload hC 4 dX11_pairs_116 rfl ?_
                            refine pm_callV (ci := 11) (as := [(0, a1), (0, (((a2 * 100) + (x40 * 10)) + x58)), (0, a3), (0, a4)]) (st := []) hC 0 (c_X11_isPair_0 a1 (((a2 * 100) + (x40 * 10)) + x58) a3 a4 ⟨by omega, by omega⟩ ⟨by omega, by omega⟩ ⟨by omega, by omega⟩ ⟨by omega, by omega⟩ (by omega)) lm_X11_303 li_X11_isPair (by decide) (by decide) rfl rfl rfl (by decide) rfl rfl (Nat.le_of_ble_eq_true rfl) ⟨Nat.le_refl _, Or.inl rfl⟩ dX11_pairs_118 ⟨rfl, hV62⟩ (fun r73 V74 hp75 => ?_)
                            obtain ⟨y76, rfl, b77, hV78, hF79⟩ := hp75
                            change pm_J X 121 [(0, (3, 0)), (1, (0, a1)), (2, (0, a2)), (3, (0, a3)), (4, (0, a4)), (5, (0, a5)), (6, (0, 1)), (7, (0, x56)), (8, (0, x40)), (9, (0, x58))] [(0, y76)] 118 V74
                            have hF80 := pm_fr.tr hF63 hF79 (by decide)
                            have e81 : V74 0 8 = 45 := by rw [hF79 0 (by decide)]; exact e64
                            have e82 : V74 45 0 = y51 := by rw [hF79 45 (by decide)]; exact e65
                            refine pm_if_eq (tgt := 143) hC ⟨by omega, by omega⟩ dX11_pairs_121 (by decide) (fun c83 => ?_) (fun c83 => ?_)
                            · skip
                              obtain ⟨x84, ei85⟩ : ∃ y : Int, x58 + 1 = y := ⟨_, rfl⟩
                              refine pm_iinc (y := x84) (lv' := [(9, (0, x84)), (0, (3, 0)), (1, (0, a1)), (2, (0, a2)), (3, (0, a3)), (4, (0, a4)), (5, (0, a5)), (6, (0, 1)), (7, (0, x56)), (8, (0, x40))]) hC 9 dX11_pairs_143 (by decide) rfl ei85 rfl ?_
                              refine pm_goto (tgt := 88) hC dX11_pairs_146 (by decide) ?_
                              refine pm_lvsub [1, 2, 3, 4, 5, 6, 7, 8, 9, 0] (lv' := [(0, (3, 0)), (1, (0, a1)), (2, (0, a2)), (3, (0, a3)), (4, (0, a4)), (5, (0, a5)), (6, (0, 1)), (7, (0, x56)), (8, (0, x40)), (9, (0, x84))]) rfl ?_
                              exact ih69 _ (by omega) x56 x84 V74 ⟨by omega, by omega⟩ ⟨by omega, by omega⟩ (by omega) hV78 hF80 e81 e82 rfl
                            · skip
                              refine pm_iload hC 7 dX11_pairs_124 rfl ?_
                              refine pm_iload hC 5 dX11_pairs_126 rfl ?_
                              refine pm_icmp_ne (tgt := 140) hC ⟨by omega, by omega⟩ ⟨by omega, by omega⟩ dX11_pairs_128 (by decide) (fun c86 => ?_) (fun c86 => ?_)
                              · skip
                                obtain ⟨x87, ei88⟩ : ∃ y : Int, x56 + 1 = y := ⟨_, rfl⟩
                                refine pm_iinc (y := x87) (lv' := [(7, (0, x87)), (0, (3, 0)), (1, (0, a1)), (2, (0, a2)), (3, (0, a3)), (4, (0, a4)), (5, (0, a5)), (6, (0, 1)), (8, (0, x40)), (9, (0, x58))]) hC 7 dX11_pairs_140 (by decide) rfl ei88 rfl ?_
                                obtain ⟨x89, ei90⟩ : ∃ y : Int, x58 + 1 = y := ⟨_, rfl⟩
                                refine pm_iinc (y := x89) (lv' := [(9, (0, x89)), (7, (0, x87)), (0, (3, 0)), (1, (0, a1)), (2, (0, a2)), (3, (0, a3)), (4, (0, a4)), (5, (0, a5)), (6, (0, 1)), (8, (0, x40))]) hC 9 dX11_pairs_143 (by decide) rfl ei90 rfl ?_
                                refine pm_goto (tgt := 88) hC dX11_pairs_146 (by decide) ?_
                                refine pm_lvsub [2, 3, 4, 5, 6, 7, 8, 1, 9, 0] (lv' := [(0, (3, 0)), (1, (0, a1)), (2, (0, a2)), (3, (0, a3)), (4, (0, a4)), (5, (0, a5)), (6, (0, 1)), (7, (0, x87)), (8, (0, x40)), (9, (0, x89))]) rfl ?_
                                exact ih69 _ (by omega) x87 x89 V74 ⟨by omega, by omega⟩ ⟨by omega, by omega⟩ (by omega) hV78 hF80 e81 e82 rfl
                              · skip
                                refine pm_iload hC 8 dX11_pairs_131 rfl ?_
                                refine pm_bipush (v := 10) hC dX11_pairs_133 (by decide) ?_
                                refine pm_imul hC dX11_pairs_135 ?_
                                refine pm_iload hC 9 dX11_pairs_136 rfl ?_
                                refine pm_iadd hC dX11_pairs_138 ?_
                                exact pm_iret hC hR pm_nar0 ⟨((x40 * 10) + x58), rfl, ⟨by omega, by omega⟩, hV78, hF80⟩ dX11_pairs_139
                        refine pm_lvsub [1, 2, 3, 4, 5, 6, 7, 8, 9, 0] (lv' := [(0, (3, 0)), (1, (0, a1)), (2, (0, a2)), (3, (0, a3)), (4, (0, a4)), (5, (0, a5)), (6, (0, 1)), (7, (0, x38)), (8, (0, x40)), (9, (0, 0))]) rfl ?_
                        exact L66 _ x38 0 V43 ⟨by omega, by omega⟩ ⟨by decide, by decide⟩ (by omega) hV44 hF45 e50 e52 rfl
                    · skip
                      refine pm_getf (v := 51) hC 0 fl_X11_35 rfl rfl (by decide) rfl e50 dX11_pairs_76 ?_
                      obtain ⟨y91, e92⟩ : ∃ y, V43 51 0 = y := ⟨_, rfl⟩
                      have b93 := hV44.get 51 0 (lo := 0) (hi := 9) (by decide) (by decide) rfl
                      rw [e92] at b93
                      refine pm_getf (v := y91) hC 51 fl_X11_136 rfl rfl (by decide) rfl e92 dX11_pairs_79 ?_
                      refine pm_icmp_ge (tgt := 155) hC ⟨by omega, by omega⟩ ⟨by omega, by omega⟩ dX11_pairs_82 (by decide) (fun c94 => ?_) (fun c94 => ?_)
                      · skip
                        refine pm_iload hC 5 dX11_pairs_155 rfl ?_
                        refine pm_iconst (v := (-1)) hC dX11_pairs_157 ?_
                        refine pm_icmp_ne (tgt := 166) hC ⟨by omega, by omega⟩ ⟨by decide, by decide⟩ dX11_pairs_158 (by decide) (fun c95 => ?_) (fun c95 => ?_)
                        · skip
                          refine pm_iconst (v := (-1)) hC dX11_pairs_166 ?_
                          exact pm_iret hC hR pm_nar0 ⟨(-1), rfl, ⟨by omega, by omega⟩, hV44, hF45⟩ dX11_pairs_167
                        · skip
                          refine pm_iload hC 7 dX11_pairs_161 rfl ?_
                          refine pm_goto (tgt := 167) hC dX11_pairs_163 (by decide) ?_
                          exact pm_iret hC hR pm_nar0 ⟨x38, rfl, ⟨by omega, by omega⟩, hV44, hF45⟩ dX11_pairs_167
                      · skip
                        refine pm_iconst (v := 0) hC dX11_pairs_85 ?_
                        refine pm_istore (lv' := [(9, (0, 0)), (0, (3, 0)), (1, (0, a1)), (2, (0, a2)), (3, (0, a3)), (4, (0, a4)), (5, (0, a5)), (6, (0, 1)), (7, (0, x38)), (8, (0, x40))]) hC dX11_pairs_86 (by decide) rfl ?_
                        have L106 : ∀ (N108 : Nat) (x96 : Int) (x98 : Int) (V101 : pm_M), (0 ≤ x96 ∧ x96 ≤ 81) → (0 ≤ x98 ∧ x98 ≤ 9) → (x96 ≤ 9 * x40 + x98) → pm_ok 0 90 V101 → pm_fr [73, 74, 75, 76, 77] V0 V101 → V101 0 8 = 51 → V101 51 0 = y91 → (Int.toNat (9 - x98)) = N108 → pm_J X 88 [(0, (3, 0)), (1, (0, a1)), (2, (0, a2)), (3, (0, a3)), (4, (0, a4)), (5, (0, a5)), (6, (0, 1)), (7, (0, x96)), (8, (0, x40)), (9, (0, x98))] [] 118 V101 := by
                          intro N108
                          induction N108 using Nat.strongRecOn with
                          | _ N108 ih109 =>
                          intro x96 x98 V101 b97 b99 b100 hV102 hF103 e104 e105 hm107
                          refine pm_iload hC 9 dX11_pairs_88 rfl ?_
                          refine pm_aload_n hC 0 (by decide) dX11_pairs_90 rfl ?_
                          refine pm_getf (v := 51) hC 0 fl_X11_35 rfl rfl (by decide) rfl e104 dX11_pairs_91 ?_
                          refine pm_getf (v := y91) hC 51 fl_X11_136 rfl rfl (by decide) rfl e105 dX11_pairs_94 ?_
                          refine pm_icmp_ge (tgt := 149) hC ⟨by omega, by omega⟩ ⟨by omega, by omega⟩ dX11_pairs_97 (by decide) (fun c110 => ?_) (fun c110 => ?_)
                          · skip
                            obtain ⟨x111, ei112⟩ : ∃ y : Int, x40 + 1 = y := ⟨_, rfl⟩
                            refine pm_iinc (y := x111) (lv' := [(8, (0, x111)), (0, (3, 0)), (1, (0, a1)), (2, (0, a2)), (3, (0, a3)), (4, (0, a4)), (5, (0, a5)), (6, (0, 1)), (7, (0, x96)), (9, (0, x98))]) hC 8 dX11_pairs_149 (by decide) rfl ei112 rfl ?_
                            refine pm_goto (tgt := 73) hC dX11_pairs_152 (by decide) ?_
                            refine pm_lvsub [1, 2, 3, 4, 5, 6, 7, 8, 0] (lv' := [(0, (3, 0)), (1, (0, a1)), (2, (0, a2)), (3, (0, a3)), (4, (0, a4)), (5, (0, a5)), (6, (0, 1)), (7, (0, x96)), (8, (0, x111))]) rfl ?_
                            exact ih49 _ (by omega) x96 x111 V101 ⟨by omega, by omega⟩ ⟨by omega, by omega⟩ (by omega) hV102 hF103 rfl
                          · skip
                            refine pm_aload_n hC 0 (by decide) dX11_pairs_100 rfl ?_
                            refine pm_iload_n hC 1 dX11_pairs_101 rfl ?_
                            refine pm_iload_n hC 2 dX11_pairs_102 rfl ?_
                            refine pm_bipush (v := 100) hC dX11_pairs_103 (by decide) ?_
                            refine pm_imul hC dX11_pairs_105 ?_
                            refine pm_iload hC 8 dX11_pairs_106 rfl ?_
                            refine pm_bipush (v := 10) hC dX11_pairs_108 (by decide) ?_
                            refine pm_imul hC dX11_pairs_110 ?_
                            refine pm_iadd hC dX11_pairs_111 ?_
                            refine pm_iload hC 9 dX11_pairs_112 rfl ?_
                            refine pm_iadd hC dX11_pairs_114 ?_
                            refine pm_iload_n hC 3 dX11_pairs_115 rfl ?_
                            refine pm_iload hC 4 dX11_pairs_116 rfl ?_
                            refine pm_callV (ci := 11) (as := [(0, a1), (0, (((a2 * 100) + (x40 * 10)) + x98)), (0, a3), (0, a4)]) (st := []) hC 0 (c_X11_isPair_0 a1 (((a2 * 100) + (x40 * 10)) + x98) a3 a4 ⟨by omega, by omega⟩ ⟨by omega, by omega⟩ ⟨by omega, by omega⟩ ⟨by omega, by omega⟩ (by omega)) lm_X11_303 li_X11_isPair (by decide) (by decide) rfl rfl rfl (by decide) rfl rfl (Nat.le_of_ble_eq_true rfl) ⟨Nat.le_refl _, Or.inl rfl⟩ dX11_pairs_118 ⟨rfl, hV102⟩ (fun r113 V114 hp115 => ?_)
                            obtain ⟨y116, rfl, b117, hV118, hF119⟩ := hp115
                            change pm_J X 121 [(0, (3, 0)), (1, (0, a1)), (2, (0, a2)), (3, (0, a3)), (4, (0, a4)), (5, (0, a5)), (6, (0, 1)), (7, (0, x96)), (8, (0, x40)), (9, (0, x98))] [(0, y116)] 118 V114
                            have hF120 := pm_fr.tr hF103 hF119 (by decide)
                            have e121 : V114 0 8 = 51 := by rw [hF119 0 (by decide)]; exact e104
                            have e122 : V114 51 0 = y91 := by rw [hF119 51 (by decide)]; exact e105
                            refine pm_if_eq (tgt := 143) hC ⟨by omega, by omega⟩ dX11_pairs_121 (by decide) (fun c123 => ?_) (fun c123 => ?_)
                            · skip
                              obtain ⟨x124, ei125⟩ : ∃ y : Int, x98 + 1 = y := ⟨_, rfl⟩
                              refine pm_iinc (y := x124) (lv' := [(9, (0, x124)), (0, (3, 0)), (1, (0, a1)), (2, (0, a2)), (3, (0, a3)), (4, (0, a4)), (5, (0, a5)), (6, (0, 1)), (7, (0, x96)), (8, (0, x40))]) hC 9 dX11_pairs_143 (by decide) rfl ei125 rfl ?_
                              refine pm_goto (tgt := 88) hC dX11_pairs_146 (by decide) ?_
                              refine pm_lvsub [1, 2, 3, 4, 5, 6, 7, 8, 9, 0] (lv' := [(0, (3, 0)), (1, (0, a1)), (2, (0, a2)), (3, (0, a3)), (4, (0, a4)), (5, (0, a5)), (6, (0, 1)), (7, (0, x96)), (8, (0, x40)), (9, (0, x124))]) rfl ?_
                              exact ih109 _ (by omega) x96 x124 V114 ⟨by omega, by omega⟩ ⟨by omega, by omega⟩ (by omega) hV118 hF120 e121 e122 rfl
                            · skip
                              refine pm_iload hC 7 dX11_pairs_124 rfl ?_
                              refine pm_iload hC 5 dX11_pairs_126 rfl ?_
                              refine pm_icmp_ne (tgt := 140) hC ⟨by omega, by omega⟩ ⟨by omega, by omega⟩ dX11_pairs_128 (by decide) (fun c126 => ?_) (fun c126 => ?_)
                              · skip
                                obtain ⟨x127, ei128⟩ : ∃ y : Int, x96 + 1 = y := ⟨_, rfl⟩
                                refine pm_iinc (y := x127) (lv' := [(7, (0, x127)), (0, (3, 0)), (1, (0, a1)), (2, (0, a2)), (3, (0, a3)), (4, (0, a4)), (5, (0, a5)), (6, (0, 1)), (8, (0, x40)), (9, (0, x98))]) hC 7 dX11_pairs_140 (by decide) rfl ei128 rfl ?_
                                obtain ⟨x129, ei130⟩ : ∃ y : Int, x98 + 1 = y := ⟨_, rfl⟩
                                refine pm_iinc (y := x129) (lv' := [(9, (0, x129)), (7, (0, x127)), (0, (3, 0)), (1, (0, a1)), (2, (0, a2)), (3, (0, a3)), (4, (0, a4)), (5, (0, a5)), (6, (0, 1)), (8, (0, x40))]) hC 9 dX11_pairs_143 (by decide) rfl ei130 rfl ?_
                                refine pm_goto (tgt := 88) hC dX11_pairs_146 (by decide) ?_
                                refine pm_lvsub [2, 3, 4, 5, 6, 7, 8, 1, 9, 0] (lv' := [(0, (3, 0)), (1, (0, a1)), (2, (0, a2)), (3, (0, a3)), (4, (0, a4)), (5, (0, a5)), (6, (0, 1)), (7, (0, x127)), (8, (0, x40)), (9, (0, x129))]) rfl ?_
                                exact ih109 _ (by omega) x127 x129 V114 ⟨by omega, by omega⟩ ⟨by omega, by omega⟩ (by omega) hV118 hF120 e121 e122 rfl
                              · skip
                                refine pm_iload hC 8 dX11_pairs_131 rfl ?_
                                refine pm_bipush (v := 10) hC dX11_pairs_133 (by decide) ?_
                                refine pm_imul hC dX11_pairs_135 ?_
                                refine pm_iload hC 9 dX11_pairs_136 rfl ?_
                                refine pm_iadd hC dX11_pairs_138 ?_
                                exact pm_iret hC hR pm_nar0 ⟨((x40 * 10) + x98), rfl, ⟨by omega, by omega⟩, hV118, hF120⟩ dX11_pairs_139
                        refine pm_lvsub [1, 2, 3, 4, 5, 6, 7, 8, 9, 0] (lv' := [(0, (3, 0)), (1, (0, a1)), (2, (0, a2)), (3, (0, a3)), (4, (0, a4)), (5, (0, a5)), (6, (0, 1)), (7, (0, x38)), (8, (0, x40)), (9, (0, 0))]) rfl ?_
                        exact L106 _ x38 0 V43 ⟨by omega, by omega⟩ ⟨by decide, by decide⟩ (by omega) hV44 hF45 e50 e92 rfl
                  refine pm_lvsub [3, 4, 5, 6, 7, 8, 2, 1, 0] (lv' := [(0, (3, 0)), (1, (0, a1)), (2, (0, a2)), (3, (0, a3)), (4, (0, a4)), (5, (0, a5)), (6, (0, 1)), (7, (0, 0)), (8, (0, 0))]) rfl ?_
                  exact L46 _ 0 0 V0 ⟨by decide, by decide⟩ ⟨by decide, by decide⟩ (by omega) hV0 (pm_fr.rf (ws := [73, 74, 75, 76, 77]) (V := V0)) rfl
                · skip
                  refine pm_iconst (v := (-1)) hC dX11_pairs_65 ?_
                  exact pm_iret hC hR pm_nar0 ⟨(-1), rfl, ⟨by omega, by omega⟩, hV0, (pm_fr.rf (ws := [73, 74, 75, 76, 77]) (V := V0))⟩ dX11_pairs_66
set_option maxHeartbeats 4000000 in
set_option maxRecDepth 100000 in
theorem c_X11_hump_0 (a1 a2 a3 : Int) (h0 : (-2147483648) ≤ a1 ∧ a1 ≤ 2147483647) (h1 : (-2147483648) ≤ a2 ∧ a2 ≤ 2147483647) (h2 : (-2147483648) ≤ a3 ∧ a3 ≤ 2147483647) : pm_K 5 yX11_hump cX11_hump 7 (some .int) (fun av V => av = [(3, 0), (0, a1), (0, a2), (0, a3)] ∧ pm_ok 0 90 V) (fun _ V r V' => ∃ y, r = some (0, y) ∧ ((-1) ≤ y ∧ y ≤ 99) ∧ pm_ok 0 90 V' ∧ pm_fr [73, 74, 75, 76, 77] V V') := by
  refine pm_MT.of (by decide) ⟨Nat.le_refl _, by decide⟩ (fun av V h => by rw [h.1]; exact (by decide : pm_words [(3, 0), (0, 0), (0, 0), (0, 0)] ≤ 7)) ?_
  rintro X av V0 hC - hR ⟨rfl, hV0⟩
  change pm_J X 0 [(0, (3, 0)), (1, (0, a1)), (2, (0, a2)), (3, (0, a3))] [] 118 V0
  refine pm_iload_n hC 3 dX11_hump_0 rfl ?_
  refine pm_if_lt (tgt := 19) hC ⟨by omega, by omega⟩ dX11_hump_1 (by decide) (fun c1 => ?_) (fun c1 => ?_)
  · skip
    refine pm_iconst (v := (-1)) hC dX11_hump_19 ?_
    exact pm_iret hC hR pm_nar0 ⟨(-1), rfl, ⟨by omega, by omega⟩, hV0, (pm_fr.rf (ws := [73, 74, 75, 76, 77]) (V := V0))⟩ dX11_hump_20
  · skip
    refine pm_iload_n hC 3 dX11_hump_4 rfl ?_
    refine pm_iconst (v := 1) hC dX11_hump_5 ?_
    refine pm_icmp_gt (tgt := 19) hC ⟨by omega, by omega⟩ ⟨by decide, by decide⟩ dX11_hump_6 (by decide) (fun c2 => ?_) (fun c2 => ?_)
    · skip
      refine pm_iconst (v := (-1)) hC dX11_hump_19 ?_
      exact pm_iret hC hR pm_nar0 ⟨(-1), rfl, ⟨by omega, by omega⟩, hV0, (pm_fr.rf (ws := [73, 74, 75, 76, 77]) (V := V0))⟩ dX11_hump_20
    · skip
      refine pm_aload_n hC 0 (by decide) dX11_hump_9 rfl ?_
      refine pm_iload_n hC 1 dX11_hump_10 rfl ?_
      refine pm_iload_n hC 2 dX11_hump_11 rfl ?_
      refine pm_iconst (v := 0) hC dX11_hump_12 ?_
      refine pm_callV (ci := 11) (as := [(0, a1), (0, a2), (0, 0)]) (st := []) hC 0 (c_X11_isTrial_0 a1 a2 0 ⟨by omega, by omega⟩ ⟨by omega, by omega⟩ ⟨by decide, by decide⟩) lm_X11_225 li_X11_isTrial (by decide) (by decide) rfl rfl rfl (by decide) rfl rfl (Nat.le_of_ble_eq_true rfl) ⟨Nat.le_refl _, Or.inl rfl⟩ dX11_hump_13 ⟨rfl, hV0⟩ (fun r3 V4 hp5 => ?_)
      obtain ⟨y6, rfl, b7, rfl⟩ := hp5
      change pm_J X 16 [(0, (3, 0)), (1, (0, a1)), (2, (0, a2)), (3, (0, a3))] [(0, y6)] 118 V0
      refine pm_if_ne (tgt := 21) hC ⟨by omega, by omega⟩ dX11_hump_16 (by decide) (fun c8 => ?_) (fun c8 => ?_)
      · skip
        refine pm_aload_n hC 0 (by decide) dX11_hump_21 rfl ?_
        refine pm_iload_n hC 1 dX11_hump_22 rfl ?_
        refine pm_iload_n hC 2 dX11_hump_23 rfl ?_
        refine pm_iconst (v := 0) hC dX11_hump_24 ?_
        refine pm_callV (ci := 11) (as := [(0, a1), (0, a2), (0, 0)]) (st := []) hC 0 (c_X11_pose_0 a1 a2 0 ⟨by omega, by omega⟩ ⟨by omega, by omega⟩ ⟨by decide, by decide⟩ (by omega)) lm_X11_229 li_X11_pose (by decide) (by decide) rfl rfl rfl (by decide) rfl rfl (Nat.le_of_ble_eq_true rfl) ⟨Nat.le_refl _, Or.inl rfl⟩ dX11_hump_25 ⟨rfl, hV0⟩ (fun r9 V10 hp11 => ?_)
        obtain ⟨rfl, hV12, hF13⟩ := hp11
        change pm_J X 28 [(0, (3, 0)), (1, (0, a1)), (2, (0, a2)), (3, (0, a3))] [] 118 V10
        have hF14 := pm_fr.tr (pm_fr.rf (ws := [73, 74, 75, 76, 77]) (V := V0)) hF13 (by decide)
        refine pm_aload_n hC 0 (by decide) dX11_hump_28 rfl ?_
        have e15 : V10 0 5 = 73 := hV12.one 0 5 (by decide) (by decide) rfl
        refine pm_getf (v := 73) hC 0 fl_X11_75 rfl rfl (by decide) rfl e15 dX11_hump_29 ?_
        refine pm_iconst (v := 4) hC dX11_hump_32 ?_
        refine pm_callV (ci := 10) (as := [(0, 4)]) (st := []) hC 73 (c_X10_weigh_73 4 ⟨by decide, by decide⟩) lm_X11_294 li_X10_weigh (by decide) (by decide) rfl rfl rfl (by decide) rfl rfl (Nat.le_of_ble_eq_true rfl) ⟨Nat.le_refl _, Or.inl rfl⟩ dX11_hump_33 ⟨rfl, hV12⟩ (fun r16 V17 hp18 => ?_)
        obtain ⟨rfl, hV19, hF20⟩ := hp18
        change pm_J X 36 [(0, (3, 0)), (1, (0, a1)), (2, (0, a2)), (3, (0, a3))] [] 118 V17
        have hF21 := pm_fr.tr hF14 hF20 (by decide)
        have e22 : V17 0 5 = 73 := by rw [hF20 0 (by decide)]; exact e15
        refine pm_aload_n hC 0 (by decide) dX11_hump_36 rfl ?_
        refine pm_getf (v := 73) hC 0 fl_X11_75 rfl rfl (by decide) rfl e22 dX11_hump_37 ?_
        refine pm_iconst (v := 3) hC dX11_hump_40 ?_
        refine pm_callV (ci := 10) (as := [(0, 3)]) (st := []) hC 73 (c_X10_chanceOfKind_73 3 ⟨by decide, by decide⟩) lm_X11_218 li_X10_chanceOfKind (by decide) (by decide) rfl rfl rfl (by decide) rfl rfl (Nat.le_of_ble_eq_true rfl) ⟨Nat.le_refl _, Or.inl rfl⟩ dX11_hump_41 ⟨rfl, hV19⟩ (fun r23 V24 hp25 => ?_)
        obtain ⟨y26, rfl, b27, rfl⟩ := hp25
        change pm_J X 44 [(0, (3, 0)), (1, (0, a1)), (2, (0, a2)), (3, (0, a3))] [(0, y26)] 118 V17
        refine pm_istore (lv' := [(4, (0, y26)), (0, (3, 0)), (1, (0, a1)), (2, (0, a2)), (3, (0, a3))]) hC dX11_hump_44 (by decide) rfl ?_
        refine pm_iload hC 0 dX11_hump_46 rfl ?_
        refine pm_if_ne (tgt := 53) hC ⟨by omega, by omega⟩ dX11_hump_48 (by decide) (fun c28 => ?_) (fun c28 => ?_)
        · skip
          refine pm_aload_n hC 1 (by decide) dX11_hump_53 rfl ?_
          have e29 : V17 0 3 = 4 := hV19.one 0 3 (by decide) (by decide) rfl
          refine pm_getf (v := 4) hC 0 fl_X11_24 rfl rfl (by decide) rfl e29 dX11_hump_54 ?_
          have e30 : V17 4 4 = 7 := hV19.one 4 4 (by decide) (by decide) rfl
          refine pm_getf (v := 7) hC 4 fl_X11_192 rfl rfl (by decide) rfl e30 dX11_hump_57 ?_
          refine pm_iload_n hC 2 dX11_hump_60 rfl ?_
          refine pm_bipush (v := 100) hC dX11_hump_61 (by decide) ?_
          refine pm_idiv hC ⟨by omega, by omega, by omega⟩ ⟨by decide, by decide, by decide⟩ dX11_hump_63 ?_
          obtain ⟨y31, e32⟩ : ∃ y, V17 7 ((a1 / 100) : Int).toNat = y := ⟨_, rfl⟩
          have b33 := hV19.get 7 ((a1 / 100) : Int).toNat (lo := 0) (hi := 16) (by decide) (show _ < 10 by omega) rfl
          rw [e32] at b33
          refine pm_iaload (len := 10) (v := y31) hC 7 rfl rfl (by decide) ⟨by omega, by omega⟩ (by decide) e32 dX11_hump_64 ?_
          refine pm_istore (lv' := [(5, (0, y31)), (4, (0, y26)), (0, (3, 0)), (1, (0, a1)), (2, (0, a2)), (3, (0, a3))]) hC dX11_hump_65 (by decide) rfl ?_
          refine pm_iconst (v := 1) hC dX11_hump_67 ?_
          refine pm_istore (lv' := [(6, (0, 1)), (5, (0, y31)), (4, (0, y26)), (0, (3, 0)), (1, (0, a1)), (2, (0, a2)), (3, (0, a3))]) hC dX11_hump_68 (by decide) rfl ?_
          have L42 : ∀ (N44 : Nat) (x34 : Int) (V36 : pm_M), (1 ≤ x34 ∧ x34 ≤ 499) → pm_ok 0 90 V36 → pm_fr [73, 74, 75, 76, 77] V0 V36 → V36 0 5 = 73 → V36 0 3 = 4 → V36 4 4 = 7 → (Int.toNat (499 - x34)) = N44 → pm_J X 70 [(0, (3, 0)), (1, (0, a1)), (2, (0, a2)), (3, (0, a3)), (4, (0, y26)), (5, (0, y31)), (6, (0, x34))] [] 118 V36 := by
            intro N44
            induction N44 using Nat.strongRecOn with
            | _ N44 ih45 =>
            intro x34 V36 b35 hV37 hF38 e39 e40 e41 hm43
            refine pm_iload hC 6 dX11_hump_70 rfl ?_
            refine pm_bipush (v := 99) hC dX11_hump_72 (by decide) ?_
            refine pm_icmp_gt (tgt := 132) hC ⟨by omega, by omega⟩ ⟨by decide, by decide⟩ dX11_hump_74 (by decide) (fun c46 => ?_) (fun c46 => ?_)
            · skip
              refine pm_bipush (v := 99) hC dX11_hump_132 (by decide) ?_
              exact pm_iret hC hR pm_nar0 ⟨99, rfl, ⟨by omega, by omega⟩, hV37, hF38⟩ dX11_hump_134
            · skip
              refine pm_aload_n hC 0 (by decide) dX11_hump_77 rfl ?_
              refine pm_getf (v := 73) hC 0 fl_X11_75 rfl rfl (by decide) rfl e39 dX11_hump_78 ?_
              refine pm_iload hC 5 dX11_hump_81 rfl ?_
              refine pm_iload_n hC 3 dX11_hump_83 rfl ?_
              refine pm_if_ne (tgt := 92) hC ⟨by omega, by omega⟩ dX11_hump_84 (by decide) (fun c47 => ?_) (fun c47 => ?_)
              · skip
                refine pm_iload hC 6 dX11_hump_92 rfl ?_
                refine pm_ineg hC dX11_hump_94 ?_
                refine pm_callV (ci := 10) (as := [(0, y31), (0, (-x34))]) (st := []) hC 73 (c_X10_trustAt_73 y31 (-x34) ⟨by omega, by omega⟩ ⟨by omega, by omega⟩) lm_X11_306 li_X10_trustAt (by decide) (by decide) rfl rfl rfl (by decide) rfl rfl (Nat.le_of_ble_eq_true rfl) ⟨Nat.le_refl _, Or.inl rfl⟩ dX11_hump_95 ⟨rfl, hV37⟩ (fun r48 V49 hp50 => ?_)
                obtain ⟨rfl, hV51, hF52⟩ := hp50
                change pm_J X 98 [(0, (3, 0)), (1, (0, a1)), (2, (0, a2)), (3, (0, a3)), (4, (0, y26)), (5, (0, y31)), (6, (0, x34))] [] 118 V49
                have hF53 := pm_fr.tr hF38 hF52 (by decide)
                have e54 : V49 0 5 = 73 := by rw [hF52 0 (by decide)]; exact e39
                have e55 : V49 0 3 = 4 := by rw [hF52 0 (by decide)]; exact e40
                have e56 : V49 4 4 = 7 := by rw [hF52 4 (by decide)]; exact e41
                refine pm_aload_n hC 0 (by decide) dX11_hump_98 rfl ?_
                refine pm_getf (v := 73) hC 0 fl_X11_75 rfl rfl (by decide) rfl e54 dX11_hump_99 ?_
                refine pm_iconst (v := 4) hC dX11_hump_102 ?_
                refine pm_callV (ci := 10) (as := [(0, 4)]) (st := []) hC 73 (c_X10_weigh_73 4 ⟨by decide, by decide⟩) lm_X11_294 li_X10_weigh (by decide) (by decide) rfl rfl rfl (by decide) rfl rfl (Nat.le_of_ble_eq_true rfl) ⟨Nat.le_refl _, Or.inl rfl⟩ dX11_hump_103 ⟨rfl, hV51⟩ (fun r57 V58 hp59 => ?_)
                obtain ⟨rfl, hV60, hF61⟩ := hp59
                change pm_J X 106 [(0, (3, 0)), (1, (0, a1)), (2, (0, a2)), (3, (0, a3)), (4, (0, y26)), (5, (0, y31)), (6, (0, x34))] [] 118 V58
                have hF62 := pm_fr.tr hF53 hF61 (by decide)
                have e63 : V58 0 5 = 73 := by rw [hF61 0 (by decide)]; exact e54
                have e64 : V58 0 3 = 4 := by rw [hF61 0 (by decide)]; exact e55
                have e65 : V58 4 4 = 7 := by rw [hF61 4 (by decide)]; exact e56
                refine pm_iconst (v := 2) hC dX11_hump_106 ?_
                refine pm_aload_n hC 0 (by decide) dX11_hump_107 rfl ?_
                refine pm_getf (v := 73) hC 0 fl_X11_75 rfl rfl (by decide) rfl e63 dX11_hump_108 ?_
                refine pm_iconst (v := 3) hC dX11_hump_111 ?_
                refine pm_callV (ci := 10) (as := [(0, 3)]) (st := [(0, 2)]) hC 73 (c_X10_chanceOfKind_73 3 ⟨by decide, by decide⟩) lm_X11_218 li_X10_chanceOfKind (by decide) (by decide) rfl rfl rfl (by decide) rfl rfl (Nat.le_of_ble_eq_true rfl) ⟨Nat.le_refl _, Or.inl rfl⟩ dX11_hump_112 ⟨rfl, hV60⟩ (fun r66 V67 hp68 => ?_)
                obtain ⟨y69, rfl, b70, rfl⟩ := hp68
                change pm_J X 115 [(0, (3, 0)), (1, (0, a1)), (2, (0, a2)), (3, (0, a3)), (4, (0, y26)), (5, (0, y31)), (6, (0, x34))] [(0, y69), (0, 2)] 118 V58
                refine pm_imul hC dX11_hump_115 ?_
                refine pm_some hC (fun y71 b72 => ?_)
                have b72 := And.intro b72.1 b72.2
                refine pm_iload hC 4 dX11_hump_116 rfl ?_
                refine pm_icmp_ge (tgt := 126) hC ⟨by omega, by omega⟩ ⟨by omega, by omega⟩ dX11_hump_118 (by decide) (fun c73 => ?_) (fun c73 => ?_)
                · skip
                  obtain ⟨x74, ei75⟩ : ∃ y : Int, x34 + 1 = y := ⟨_, rfl⟩
                  refine pm_iinc (y := x74) (lv' := [(6, (0, x74)), (0, (3, 0)), (1, (0, a1)), (2, (0, a2)), (3, (0, a3)), (4, (0, y26)), (5, (0, y31))]) hC 6 dX11_hump_126 (by decide) rfl ei75 rfl ?_
                  refine pm_goto (tgt := 70) hC dX11_hump_129 (by decide) ?_
                  refine pm_lvsub [1, 2, 3, 4, 5, 6, 0] (lv' := [(0, (3, 0)), (1, (0, a1)), (2, (0, a2)), (3, (0, a3)), (4, (0, y26)), (5, (0, y31)), (6, (0, x74))]) rfl ?_
                  exact ih45 _ (by omega) x74 V58 ⟨by omega, by omega⟩ hV60 hF62 e63 e64 e65 rfl
                · skip
                  refine pm_iload hC 6 dX11_hump_121 rfl ?_
                  refine pm_iconst (v := 1) hC dX11_hump_123 ?_
                  refine pm_isub hC dX11_hump_124 ?_
                  exact pm_iret hC hR pm_nar0 ⟨(x34 - 1), rfl, ⟨by omega, by omega⟩, hV60, hF62⟩ dX11_hump_125
              · skip
                refine pm_iload hC 6 dX11_hump_87 rfl ?_
                refine pm_goto (tgt := 95) hC dX11_hump_89 (by decide) ?_
                refine pm_callV (ci := 10) (as := [(0, y31), (0, x34)]) (st := []) hC 73 (c_X10_trustAt_73 y31 x34 ⟨by omega, by omega⟩ ⟨by omega, by omega⟩) lm_X11_306 li_X10_trustAt (by decide) (by decide) rfl rfl rfl (by decide) rfl rfl (Nat.le_of_ble_eq_true rfl) ⟨Nat.le_refl _, Or.inl rfl⟩ dX11_hump_95 ⟨rfl, hV37⟩ (fun r76 V77 hp78 => ?_)
                obtain ⟨rfl, hV79, hF80⟩ := hp78
                change pm_J X 98 [(0, (3, 0)), (1, (0, a1)), (2, (0, a2)), (3, (0, a3)), (4, (0, y26)), (5, (0, y31)), (6, (0, x34))] [] 118 V77
                have hF81 := pm_fr.tr hF38 hF80 (by decide)
                have e82 : V77 0 5 = 73 := by rw [hF80 0 (by decide)]; exact e39
                have e83 : V77 0 3 = 4 := by rw [hF80 0 (by decide)]; exact e40
                have e84 : V77 4 4 = 7 := by rw [hF80 4 (by decide)]; exact e41
                refine pm_aload_n hC 0 (by decide) dX11_hump_98 rfl ?_
                refine pm_getf (v := 73) hC 0 fl_X11_75 rfl rfl (by decide) rfl e82 dX11_hump_99 ?_
                refine pm_iconst (v := 4) hC dX11_hump_102 ?_
                refine pm_callV (ci := 10) (as := [(0, 4)]) (st := []) hC 73 (c_X10_weigh_73 4 ⟨by decide, by decide⟩) lm_X11_294 li_X10_weigh (by decide) (by decide) rfl rfl rfl (by decide) rfl rfl (Nat.le_of_ble_eq_true rfl) ⟨Nat.le_refl _, Or.inl rfl⟩ dX11_hump_103 ⟨rfl, hV79⟩ (fun r85 V86 hp87 => ?_)
                obtain ⟨rfl, hV88, hF89⟩ := hp87
                change pm_J X 106 [(0, (3, 0)), (1, (0, a1)), (2, (0, a2)), (3, (0, a3)), (4, (0, y26)), (5, (0, y31)), (6, (0, x34))] [] 118 V86
                have hF90 := pm_fr.tr hF81 hF89 (by decide)
                have e91 : V86 0 5 = 73 := by rw [hF89 0 (by decide)]; exact e82
                have e92 : V86 0 3 = 4 := by rw [hF89 0 (by decide)]; exact e83
                have e93 : V86 4 4 = 7 := by rw [hF89 4 (by decide)]; exact e84
                refine pm_iconst (v := 2) hC dX11_hump_106 ?_
                refine pm_aload_n hC 0 (by decide) dX11_hump_107 rfl ?_
                refine pm_getf (v := 73) hC 0 fl_X11_75 rfl rfl (by decide) rfl e91 dX11_hump_108 ?_
                refine pm_iconst (v := 3) hC dX11_hump_111 ?_
                refine pm_callV (ci := 10) (as := [(0, 3)]) (st := [(0, 2)]) hC 73 (c_X10_chanceOfKind_73 3 ⟨by decide, by decide⟩) lm_X11_218 li_X10_chanceOfKind (by decide) (by decide) rfl rfl rfl (by decide) rfl rfl (Nat.le_of_ble_eq_true rfl) ⟨Nat.le_refl _, Or.inl rfl⟩ dX11_hump_112 ⟨rfl, hV88⟩ (fun r94 V95 hp96 => ?_)
                obtain ⟨y97, rfl, b98, rfl⟩ := hp96
                change pm_J X 115 [(0, (3, 0)), (1, (0, a1)), (2, (0, a2)), (3, (0, a3)), (4, (0, y26)), (5, (0, y31)), (6, (0, x34))] [(0, y97), (0, 2)] 118 V86
                refine pm_imul hC dX11_hump_115 ?_
                refine pm_some hC (fun y99 b100 => ?_)
                have b100 := And.intro b100.1 b100.2
                refine pm_iload hC 4 dX11_hump_116 rfl ?_
                refine pm_icmp_ge (tgt := 126) hC ⟨by omega, by omega⟩ ⟨by omega, by omega⟩ dX11_hump_118 (by decide) (fun c101 => ?_) (fun c101 => ?_)
                · skip
                  obtain ⟨x102, ei103⟩ : ∃ y : Int, x34 + 1 = y := ⟨_, rfl⟩
                  refine pm_iinc (y := x102) (lv' := [(6, (0, x102)), (0, (3, 0)), (1, (0, a1)), (2, (0, a2)), (3, (0, a3)), (4, (0, y26)), (5, (0, y31))]) hC 6 dX11_hump_126 (by decide) rfl ei103 rfl ?_
                  refine pm_goto (tgt := 70) hC dX11_hump_129 (by decide) ?_
                  refine pm_lvsub [1, 2, 3, 4, 5, 6, 0] (lv' := [(0, (3, 0)), (1, (0, a1)), (2, (0, a2)), (3, (0, a3)), (4, (0, y26)), (5, (0, y31)), (6, (0, x102))]) rfl ?_
                  exact ih45 _ (by omega) x102 V86 ⟨by omega, by omega⟩ hV88 hF90 e91 e92 e93 rfl
                · skip
                  refine pm_iload hC 6 dX11_hump_121 rfl ?_
                  refine pm_iconst (v := 1) hC dX11_hump_123 ?_
                  refine pm_isub hC dX11_hump_124 ?_
                  exact pm_iret hC hR pm_nar0 ⟨(x34 - 1), rfl, ⟨by omega, by omega⟩, hV88, hF90⟩ dX11_hump_125
          refine pm_lvsub [3, 4, 5, 6, 2, 1, 0] (lv' := [(0, (3, 0)), (1, (0, a1)), (2, (0, a2)), (3, (0, a3)), (4, (0, y26)), (5, (0, y31)), (6, (0, 1))]) rfl ?_
          exact L42 _ 1 V17 ⟨by decide, by decide⟩ hV19 hF21 e22 e29 e30 rfl
        · skip
          refine pm_iconst (v := (-1)) hC dX11_hump_51 ?_
          exact pm_iret hC hR pm_nar0 ⟨(-1), rfl, ⟨by omega, by omega⟩, hV19, hF21⟩ dX11_hump_52
      · skip
        refine pm_iconst (v := (-1)) hC dX11_hump_19 ?_
        exact pm_iret hC hR pm_nar0 ⟨(-1), rfl, ⟨by omega, by omega⟩, hV0, (pm_fr.rf (ws := [73, 74, 75, 76, 77]) (V := V0))⟩ dX11_hump_20
