set_option maxHeartbeats 4000000 in
set_option maxRecDepth 100000 in
theorem c_X10_mostLikely_73  : pm_K 1 yX10_mostLikely cX10_mostLikely 3 (some .int) (fun av V => av = [(3, 73)] ∧ pm_ok 0 90 V) (fun _ V r V' => ∃ y, r = some (0, y) ∧ (0 ≤ y ∧ y ≤ 8) ∧ V = V') := by
  refine pm_MT.of (by decide) ⟨Nat.le_refl _, by decide⟩ (fun av V h => by rw [h.1]; exact (by decide : pm_words [(3, 0)] ≤ 3)) ?_
  rintro X av V0 hC - hR ⟨rfl, hV0⟩
  change pm_J X 0 [(0, (3, 73))] [] 118 V0
  refine pm_iconst (v := 0) hC dX10_mostLikely_0 ?_
  refine pm_istore_n (lv' := [(1, (0, 0)), (0, (3, 73))]) hC dX10_mostLikely_1 (by decide) rfl ?_
  refine pm_iconst (v := 1) hC dX10_mostLikely_2 ?_
  refine pm_istore_n (lv' := [(2, (0, 1)), (1, (0, 0)), (0, (3, 73))]) hC dX10_mostLikely_3 (by decide) rfl ?_
  have L5 : ∀ (N7 : Nat) (x1 : Int) (x3 : Int), (0 ≤ x1 ∧ x1 ≤ 8) → (1 ≤ x3 ∧ x3 ≤ 9) → (Int.toNat (9 - x3)) = N7 → pm_J X 4 [(0, (3, 73)), (1, (0, x1)), (2, (0, x3))] [] 118 V0 := by
    intro N7
    induction N7 using Nat.strongRecOn with
    | _ N7 ih8 =>
    intro x1 x3 b2 b4 hm6
    refine pm_iload_n hC 2 dX10_mostLikely_4 rfl ?_
    refine pm_aload_n hC 0 (by decide) dX10_mostLikely_5 rfl ?_
    rcases hV0.get2 73 0 (lo := 45) (hi := 51) (by decide) (by decide) rfl with e9 | e9
    · skip
      refine pm_getf (v := 45) hC 73 fl_X10_59 rfl rfl (by decide) rfl e9 dX10_mostLikely_6 ?_
      obtain ⟨y10, e11⟩ : ∃ y, V0 45 0 = y := ⟨_, rfl⟩
      have b12 := hV0.get 45 0 (lo := 0) (hi := 9) (by decide) (by decide) rfl
      rw [e11] at b12
      refine pm_getf (v := y10) hC 45 fl_X10_79 rfl rfl (by decide) rfl e11 dX10_mostLikely_9 ?_
      refine pm_icmp_ge (tgt := 39) hC ⟨by omega, by omega⟩ ⟨by omega, by omega⟩ dX10_mostLikely_12 (by decide) (fun c13 => ?_) (fun c13 => ?_)
      · skip
        refine pm_iload_n hC 1 dX10_mostLikely_39 rfl ?_
        exact pm_iret hC hR pm_nar0 ⟨x1, rfl, ⟨by omega, by omega⟩, rfl⟩ dX10_mostLikely_40
      · skip
        refine pm_aload_n hC 0 (by decide) dX10_mostLikely_15 rfl ?_
        rcases hV0.get2 73 13 (lo := 76) (hi := 77) (by decide) (by decide) rfl with e14 | e14
        · skip
          refine pm_getf (v := 76) hC 73 fl_X10_50 rfl rfl (by decide) rfl e14 dX10_mostLikely_16 ?_
          refine pm_iload_n hC 2 dX10_mostLikely_19 rfl ?_
          obtain ⟨y15, e16⟩ : ∃ y, V0 76 (x3 : Int).toNat = y := ⟨_, rfl⟩
          have b17 := hV0.get 76 (x3 : Int).toNat (lo := (-9223372036854775808)) (hi := 9223372036854775807) (by decide) (show _ < 9 by omega) rfl
          rw [e16] at b17
          refine pm_laload (len := 9) (v := y15) hC 76 rfl rfl (by decide) ⟨by omega, by omega⟩ (by decide) e16 dX10_mostLikely_20 ?_
          refine pm_aload_n hC 0 (by decide) dX10_mostLikely_21 rfl ?_
          refine pm_getf (v := 76) hC 73 fl_X10_50 rfl rfl (by decide) rfl e14 dX10_mostLikely_22 ?_
          refine pm_iload_n hC 1 dX10_mostLikely_25 rfl ?_
          obtain ⟨y18, e19⟩ : ∃ y, V0 76 (x1 : Int).toNat = y := ⟨_, rfl⟩
          have b20 := hV0.get 76 (x1 : Int).toNat (lo := (-9223372036854775808)) (hi := 9223372036854775807) (by decide) (show _ < 9 by omega) rfl
          rw [e19] at b20
          refine pm_laload (len := 9) (v := y18) hC 76 rfl rfl (by decide) ⟨by omega, by omega⟩ (by decide) e19 dX10_mostLikely_26 ?_
          refine pm_lcmp hC ⟨by omega, by omega⟩ ⟨by omega, by omega⟩ dX10_mostLikely_27 (fun y21 b22 => ?_)
          refine pm_if_le (tgt := 33) hC ⟨by omega, by omega⟩ dX10_mostLikely_28 (by decide) (fun c23 => ?_) (fun c23 => ?_)
          · skip
            obtain ⟨x24, ei25⟩ : ∃ y : Int, x3 + 1 = y := ⟨_, rfl⟩
            refine pm_iinc (y := x24) (lv' := [(2, (0, x24)), (0, (3, 73)), (1, (0, x1))]) hC 2 dX10_mostLikely_33 (by decide) rfl ei25 rfl ?_
            refine pm_goto (tgt := 4) hC dX10_mostLikely_36 (by decide) ?_
            refine pm_lvsub [1, 2, 0] (lv' := [(0, (3, 73)), (1, (0, x1)), (2, (0, x24))]) rfl ?_
            exact ih8 _ (by omega) x1 x24 ⟨by omega, by omega⟩ ⟨by omega, by omega⟩ rfl
          · skip
            refine pm_iload_n hC 2 dX10_mostLikely_31 rfl ?_
            refine pm_istore_n (lv' := [(1, (0, x3)), (0, (3, 73)), (2, (0, x3))]) hC dX10_mostLikely_32 (by decide) rfl ?_
            obtain ⟨x26, ei27⟩ : ∃ y : Int, x3 + 1 = y := ⟨_, rfl⟩
            refine pm_iinc (y := x26) (lv' := [(2, (0, x26)), (1, (0, x3)), (0, (3, 73))]) hC 2 dX10_mostLikely_33 (by decide) rfl ei27 rfl ?_
            refine pm_goto (tgt := 4) hC dX10_mostLikely_36 (by decide) ?_
            refine pm_lvsub [2, 1, 0] (lv' := [(0, (3, 73)), (1, (0, x3)), (2, (0, x26))]) rfl ?_
            exact ih8 _ (by omega) x3 x26 ⟨by omega, by omega⟩ ⟨by omega, by omega⟩ rfl
        · skip
          refine pm_getf (v := 77) hC 73 fl_X10_50 rfl rfl (by decide) rfl e14 dX10_mostLikely_16 ?_
          refine pm_iload_n hC 2 dX10_mostLikely_19 rfl ?_
          obtain ⟨y28, e29⟩ : ∃ y, V0 77 (x3 : Int).toNat = y := ⟨_, rfl⟩
          have b30 := hV0.get 77 (x3 : Int).toNat (lo := (-9223372036854775808)) (hi := 9223372036854775807) (by decide) (show _ < 9 by omega) rfl
          rw [e29] at b30
          refine pm_laload (len := 9) (v := y28) hC 77 rfl rfl (by decide) ⟨by omega, by omega⟩ (by decide) e29 dX10_mostLikely_20 ?_
          refine pm_aload_n hC 0 (by decide) dX10_mostLikely_21 rfl ?_
          refine pm_getf (v := 77) hC 73 fl_X10_50 rfl rfl (by decide) rfl e14 dX10_mostLikely_22 ?_
          refine pm_iload_n hC 1 dX10_mostLikely_25 rfl ?_
          obtain ⟨y31, e32⟩ : ∃ y, V0 77 (x1 : Int).toNat = y := ⟨_, rfl⟩
          have b33 := hV0.get 77 (x1 : Int).toNat (lo := (-9223372036854775808)) (hi := 9223372036854775807) (by decide) (show _ < 9 by omega) rfl
          rw [e32] at b33
          refine pm_laload (len := 9) (v := y31) hC 77 rfl rfl (by decide) ⟨by omega, by omega⟩ (by decide) e32 dX10_mostLikely_26 ?_
          refine pm_lcmp hC ⟨by omega, by omega⟩ ⟨by omega, by omega⟩ dX10_mostLikely_27 (fun y34 b35 => ?_)
          refine pm_if_le (tgt := 33) hC ⟨by omega, by omega⟩ dX10_mostLikely_28 (by decide) (fun c36 => ?_) (fun c36 => ?_)
          · skip
            obtain ⟨x37, ei38⟩ : ∃ y : Int, x3 + 1 = y := ⟨_, rfl⟩
            refine pm_iinc (y := x37) (lv' := [(2, (0, x37)), (0, (3, 73)), (1, (0, x1))]) hC 2 dX10_mostLikely_33 (by decide) rfl ei38 rfl ?_
            refine pm_goto (tgt := 4) hC dX10_mostLikely_36 (by decide) ?_
            refine pm_lvsub [1, 2, 0] (lv' := [(0, (3, 73)), (1, (0, x1)), (2, (0, x37))]) rfl ?_
            exact ih8 _ (by omega) x1 x37 ⟨by omega, by omega⟩ ⟨by omega, by omega⟩ rfl
          · skip
            refine pm_iload_n hC 2 dX10_mostLikely_31 rfl ?_
            refine pm_istore_n (lv' := [(1, (0, x3)), (0, (3, 73)), (2, (0, x3))]) hC dX10_mostLikely_32 (by decide) rfl ?_
            obtain ⟨x39, ei40⟩ : ∃ y : Int, x3 + 1 = y := ⟨_, rfl⟩
            refine pm_iinc (y := x39) (lv' := [(2, (0, x39)), (1, (0, x3)), (0, (3, 73))]) hC 2 dX10_mostLikely_33 (by decide) rfl ei40 rfl ?_
            refine pm_goto (tgt := 4) hC dX10_mostLikely_36 (by decide) ?_
            refine pm_lvsub [2, 1, 0] (lv' := [(0, (3, 73)), (1, (0, x3)), (2, (0, x39))]) rfl ?_
            exact ih8 _ (by omega) x3 x39 ⟨by omega, by omega⟩ ⟨by omega, by omega⟩ rfl
    · skip
      refine pm_getf (v := 51) hC 73 fl_X10_59 rfl rfl (by decide) rfl e9 dX10_mostLikely_6 ?_
      obtain ⟨y41, e42⟩ : ∃ y, V0 51 0 = y := ⟨_, rfl⟩
      have b43 := hV0.get 51 0 (lo := 0) (hi := 9) (by decide) (by decide) rfl
      rw [e42] at b43
      refine pm_getf (v := y41) hC 51 fl_X10_79 rfl rfl (by decide) rfl e42 dX10_mostLikely_9 ?_
      refine pm_icmp_ge (tgt := 39) hC ⟨by omega, by omega⟩ ⟨by omega, by omega⟩ dX10_mostLikely_12 (by decide) (fun c44 => ?_) (fun c44 => ?_)
      · skip
        refine pm_iload_n hC 1 dX10_mostLikely_39 rfl ?_
        exact pm_iret hC hR pm_nar0 ⟨x1, rfl, ⟨by omega, by omega⟩, rfl⟩ dX10_mostLikely_40
      · skip
        refine pm_aload_n hC 0 (by decide) dX10_mostLikely_15 rfl ?_
        rcases hV0.get2 73 13 (lo := 76) (hi := 77) (by decide) (by decide) rfl with e45 | e45
        · skip
          refine pm_getf (v := 76) hC 73 fl_X10_50 rfl rfl (by decide) rfl e45 dX10_mostLikely_16 ?_
          refine pm_iload_n hC 2 dX10_mostLikely_19 rfl ?_
          obtain ⟨y46, e47⟩ : ∃ y, V0 76 (x3 : Int).toNat = y := ⟨_, rfl⟩
          have b48 := hV0.get 76 (x3 : Int).toNat (lo := (-9223372036854775808)) (hi := 9223372036854775807) (by decide) (show _ < 9 by omega) rfl
          rw [e47] at b48
          refine pm_laload (len := 9) (v := y46) hC 76 rfl rfl (by decide) ⟨by omega, by omega⟩ (by decide) e47 dX10_mostLikely_20 ?_
          refine pm_aload_n hC 0 (by decide) dX10_mostLikely_21 rfl ?_
          refine pm_getf (v := 76) hC 73 fl_X10_50 rfl rfl (by decide) rfl e45 dX10_mostLikely_22 ?_
          refine pm_iload_n hC 1 dX10_mostLikely_25 rfl ?_
          obtain ⟨y49, e50⟩ : ∃ y, V0 76 (x1 : Int).toNat = y := ⟨_, rfl⟩
          have b51 := hV0.get 76 (x1 : Int).toNat (lo := (-9223372036854775808)) (hi := 9223372036854775807) (by decide) (show _ < 9 by omega) rfl
          rw [e50] at b51
          refine pm_laload (len := 9) (v := y49) hC 76 rfl rfl (by decide) ⟨by omega, by omega⟩ (by decide) e50 dX10_mostLikely_26 ?_
          refine pm_lcmp hC ⟨by omega, by omega⟩ ⟨by omega, by omega⟩ dX10_mostLikely_27 (fun y52 b53 => ?_)
          refine pm_if_le (tgt := 33) hC ⟨by omega, by omega⟩ dX10_mostLikely_28 (by decide) (fun c54 => ?_) (fun c54 => ?_)
          · skip
            obtain ⟨x55, ei56⟩ : ∃ y : Int, x3 + 1 = y := ⟨_, rfl⟩
            refine pm_iinc (y := x55) (lv' := [(2, (0, x55)), (0, (3, 73)), (1, (0, x1))]) hC 2 dX10_mostLikely_33 (by decide) rfl ei56 rfl ?_
            refine pm_goto (tgt := 4) hC dX10_mostLikely_36 (by decide) ?_
            refine pm_lvsub [1, 2, 0] (lv' := [(0, (3, 73)), (1, (0, x1)), (2, (0, x55))]) rfl ?_
            exact ih8 _ (by omega) x1 x55 ⟨by omega, by omega⟩ ⟨by omega, by omega⟩ rfl
          · skip
            refine pm_iload_n hC 2 dX10_mostLikely_31 rfl ?_
            refine pm_istore_n (lv' := [(1, (0, x3)), (0, (3, 73)), (2, (0, x3))]) hC dX10_mostLikely_32 (by decide) rfl ?_
            obtain ⟨x57, ei58⟩ : ∃ y : Int, x3 + 1 = y := ⟨_, rfl⟩
            refine pm_iinc (y := x57) (lv' := [(2, (0, x57)), (1, (0, x3)), (0, (3, 73))]) hC 2 dX10_mostLikely_33 (by decide) rfl ei58 rfl ?_
            refine pm_goto (tgt := 4) hC dX10_mostLikely_36 (by decide) ?_
            refine pm_lvsub [2, 1, 0] (lv' := [(0, (3, 73)), (1, (0, x3)), (2, (0, x57))]) rfl ?_
            exact ih8 _ (by omega) x3 x57 ⟨by omega, by omega⟩ ⟨by omega, by omega⟩ rfl
        · skip
          refine pm_getf (v := 77) hC 73 fl_X10_50 rfl rfl (by decide) rfl e45 dX10_mostLikely_16 ?_
          refine pm_iload_n hC 2 dX10_mostLikely_19 rfl ?_
          obtain ⟨y59, e60⟩ : ∃ y, V0 77 (x3 : Int).toNat = y := ⟨_, rfl⟩
          have b61 := hV0.get 77 (x3 : Int).toNat (lo := (-9223372036854775808)) (hi := 9223372036854775807) (by decide) (show _ < 9 by omega) rfl
          rw [e60] at b61
          refine pm_laload (len := 9) (v := y59) hC 77 rfl rfl (by decide) ⟨by omega, by omega⟩ (by decide) e60 dX10_mostLikely_20 ?_
          refine pm_aload_n hC 0 (by decide) dX10_mostLikely_21 rfl ?_
          refine pm_getf (v := 77) hC 73 fl_X10_50 rfl rfl (by decide) rfl e45 dX10_mostLikely_22 ?_
          refine pm_iload_n hC 1 dX10_mostLikely_25 rfl ?_
          obtain ⟨y62, e63⟩ : ∃ y, V0 77 (x1 : Int).toNat = y := ⟨_, rfl⟩
          have b64 := hV0.get 77 (x1 : Int).toNat (lo := (-9223372036854775808)) (hi := 9223372036854775807) (by decide) (show _ < 9 by omega) rfl
          rw [e63] at b64
          refine pm_laload (len := 9) (v := y62) hC 77 rfl rfl (by decide) ⟨by omega, by omega⟩ (by decide) e63 dX10_mostLikely_26 ?_
          refine pm_lcmp hC ⟨by omega, by omega⟩ ⟨by omega, by omega⟩ dX10_mostLikely_27 (fun y65 b66 => ?_)
          refine pm_if_le (tgt := 33) hC ⟨by omega, by omega⟩ dX10_mostLikely_28 (by decide) (fun c67 => ?_) (fun c67 => ?_)
          · skip
            obtain ⟨x68, ei69⟩ : ∃ y : Int, x3 + 1 = y := ⟨_, rfl⟩
            refine pm_iinc (y := x68) (lv' := [(2, (0, x68)), (0, (3, 73)), (1, (0, x1))]) hC 2 dX10_mostLikely_33 (by decide) rfl ei69 rfl ?_
            refine pm_goto (tgt := 4) hC dX10_mostLikely_36 (by decide) ?_
            refine pm_lvsub [1, 2, 0] (lv' := [(0, (3, 73)), (1, (0, x1)), (2, (0, x68))]) rfl ?_
            exact ih8 _ (by omega) x1 x68 ⟨by omega, by omega⟩ ⟨by omega, by omega⟩ rfl
          · skip
            refine pm_iload_n hC 2 dX10_mostLikely_31 rfl ?_
            refine pm_istore_n (lv' := [(1, (0, x3)), (0, (3, 73)), (2, (0, x3))]) hC dX10_mostLikely_32 (by decide) rfl ?_
            obtain ⟨x70, ei71⟩ : ∃ y : Int, x3 + 1 = y := ⟨_, rfl⟩
            refine pm_iinc (y := x70) (lv' := [(2, (0, x70)), (1, (0, x3)), (0, (3, 73))]) hC 2 dX10_mostLikely_33 (by decide) rfl ei71 rfl ?_
            refine pm_goto (tgt := 4) hC dX10_mostLikely_36 (by decide) ?_
            refine pm_lvsub [2, 1, 0] (lv' := [(0, (3, 73)), (1, (0, x3)), (2, (0, x70))]) rfl ?_
            exact ih8 _ (by omega) x3 x70 ⟨by omega, by omega⟩ ⟨by omega, by omega⟩ rfl
  refine pm_lvsub [2, 1, 0] (lv' := [(0, (3, 73)), (1, (0, 0)), (2, (0, 1))]) rfl ?_
  exact L5 _ 0 1 ⟨by decide, by decide⟩ ⟨by decide, by decide⟩ rfl
set_option maxHeartbeats 4000000 in
set_option maxRecDepth 100000 in
theorem c_X10_greatestWeight_73  : pm_K 2 yX10_greatestWeight cX10_greatestWeight 1 (some .long) (fun av V => av = [(3, 73)] ∧ pm_ok 0 90 V) (fun _ V r V' => ∃ y, r = some (1, y) ∧ ((-9223372036854775808) ≤ y ∧ y ≤ 9223372036854775807) ∧ V = V') := by
  refine pm_MT.of (by decide) ⟨Nat.le_refl _, by decide⟩ (fun av V h => by rw [h.1]; exact (by decide : pm_words [(3, 0)] ≤ 1)) ?_
  rintro X av V0 hC - hR ⟨rfl, hV0⟩
  change pm_J X 0 [(0, (3, 73))] [] 118 V0
  refine pm_aload_n hC 0 (by decide) dX10_greatestWeight_0 rfl ?_
  rcases hV0.get2 73 13 (lo := 76) (hi := 77) (by decide) (by decide) rfl with e1 | e1
  · skip
    refine pm_getf (v := 76) hC 73 fl_X10_50 rfl rfl (by decide) rfl e1 dX10_greatestWeight_1 ?_
    refine pm_aload_n hC 0 (by decide) dX10_greatestWeight_4 rfl ?_
    refine pm_callV (ci := 10) (as := []) (st := [(3, 76)]) hC 73 c_X10_mostLikely_73 lm_X10_138 li_X10_mostLikely (by decide) (by decide) rfl rfl rfl (by decide) rfl rfl (Nat.le_of_ble_eq_true rfl) ⟨Nat.le_refl _, Or.inl rfl⟩ dX10_greatestWeight_5 ⟨rfl, hV0⟩ (fun r2 V3 hp4 => ?_)
    obtain ⟨y5, rfl, b6, rfl⟩ := hp4
    change pm_J X 8 [(0, (3, 73))] [(0, y5), (3, 76)] 118 V0
    obtain ⟨y7, e8⟩ : ∃ y, V0 76 (y5 : Int).toNat = y := ⟨_, rfl⟩
    have b9 := hV0.get 76 (y5 : Int).toNat (lo := (-9223372036854775808)) (hi := 9223372036854775807) (by decide) (show _ < 9 by omega) rfl
    rw [e8] at b9
    refine pm_laload (len := 9) (v := y7) hC 76 rfl rfl (by decide) ⟨by omega, by omega⟩ (by decide) e8 dX10_greatestWeight_8 ?_
    exact pm_lret hC hR ⟨y7, rfl, ⟨by omega, by omega⟩, rfl⟩ dX10_greatestWeight_9
  · skip
    refine pm_getf (v := 77) hC 73 fl_X10_50 rfl rfl (by decide) rfl e1 dX10_greatestWeight_1 ?_
    refine pm_aload_n hC 0 (by decide) dX10_greatestWeight_4 rfl ?_
    refine pm_callV (ci := 10) (as := []) (st := [(3, 77)]) hC 73 c_X10_mostLikely_73 lm_X10_138 li_X10_mostLikely (by decide) (by decide) rfl rfl rfl (by decide) rfl rfl (Nat.le_of_ble_eq_true rfl) ⟨Nat.le_refl _, Or.inl rfl⟩ dX10_greatestWeight_5 ⟨rfl, hV0⟩ (fun r10 V11 hp12 => ?_)
    obtain ⟨y13, rfl, b14, rfl⟩ := hp12
    change pm_J X 8 [(0, (3, 73))] [(0, y13), (3, 77)] 118 V0
    obtain ⟨y15, e16⟩ : ∃ y, V0 77 (y13 : Int).toNat = y := ⟨_, rfl⟩
    have b17 := hV0.get 77 (y13 : Int).toNat (lo := (-9223372036854775808)) (hi := 9223372036854775807) (by decide) (show _ < 9 by omega) rfl
    rw [e16] at b17
    refine pm_laload (len := 9) (v := y15) hC 77 rfl rfl (by decide) ⟨by omega, by omega⟩ (by decide) e16 dX10_greatestWeight_8 ?_
    exact pm_lret hC hR ⟨y15, rfl, ⟨by omega, by omega⟩, rfl⟩ dX10_greatestWeight_9
set_option maxHeartbeats 4000000 in
set_option maxRecDepth 100000 in
theorem c_X10_weighSurer_73  : pm_K 3 yX10_weighSurer cX10_weighSurer 5 none (fun av V => av = [(3, 73)] ∧ pm_ok 0 90 V) (fun _ V r V' => r = none ∧ pm_ok 0 90 V' ∧ pm_fr [73, 76, 77] V V') := by
  refine pm_MT.of (by decide) ⟨Nat.le_refl _, by decide⟩ (fun av V h => by rw [h.1]; exact (by decide : pm_words [(3, 0)] ≤ 5)) ?_
  rintro X av V0 hC - hR ⟨rfl, hV0⟩
  change pm_J X 0 [(0, (3, 73))] [] 118 V0
  refine pm_aload_n hC 0 (by decide) dX10_weighSurer_0 rfl ?_
  refine pm_callV (ci := 10) (as := []) (st := []) hC 73 c_X10_weighFace_73 lm_X10_103 li_X10_weighFace (by decide) (by decide) rfl rfl rfl (by decide) rfl rfl (Nat.le_of_ble_eq_true rfl) ⟨Nat.le_refl _, Or.inl rfl⟩ dX10_weighSurer_1 ⟨rfl, hV0⟩ (fun r1 V2 hp3 => ?_)
  obtain ⟨rfl, hV4, hF5⟩ := hp3
  change pm_J X 4 [(0, (3, 73))] [] 118 V2
  have hF6 := pm_fr.tr (pm_fr.rf (ws := [73, 76, 77]) (V := V0)) hF5 (by decide)
  refine pm_aload_n hC 0 (by decide) dX10_weighSurer_4 rfl ?_
  refine pm_callV (ci := 10) (as := []) (st := []) hC 73 c_X10_greatestWeight_73 lm_X10_129 li_X10_greatestWeight (by decide) (by decide) rfl rfl rfl (by decide) rfl rfl (Nat.le_of_ble_eq_true rfl) ⟨Nat.le_refl _, Or.inl rfl⟩ dX10_weighSurer_5 ⟨rfl, hV4⟩ (fun r7 V8 hp9 => ?_)
  obtain ⟨y10, rfl, b11, rfl⟩ := hp9
  change pm_J X 8 [(0, (3, 73))] [(1, y10)] 118 V2
  refine pm_lstore_n (lv' := [(1, (1, y10)), (0, (3, 73))]) hC dX10_weighSurer_8 (by decide) rfl ?_
  refine pm_aload_n hC 1 (by decide) dX10_weighSurer_9 rfl ?_
  obtain ⟨y12, e13⟩ : ∃ y, V2 73 14 = y := ⟨_, rfl⟩
  have b14 := hV4.get 73 14 (lo := (-9223372036854775808)) (hi := 9223372036854775807) (by decide) (by decide) rfl
  rw [e13] at b14
  refine pm_getf (v := y12) hC 73 fl_X10_53 rfl rfl (by decide) rfl e13 dX10_weighSurer_10 ?_
  refine pm_lstore_n (lv' := [(3, (1, y12)), (1, (1, y10)), (0, (3, 73))]) hC dX10_weighSurer_13 (by decide) rfl ?_
  refine pm_aload_n hC 2 (by decide) dX10_weighSurer_14 rfl ?_
  refine pm_callV (ci := 10) (as := []) (st := []) hC 73 c_X10_weighVoice_73 lm_X10_126 li_X10_weighVoice (by decide) (by decide) rfl rfl rfl (by decide) rfl rfl (Nat.le_of_ble_eq_true rfl) ⟨Nat.le_refl _, Or.inl rfl⟩ dX10_weighSurer_15 ⟨rfl, hV4⟩ (fun r15 V16 hp17 => ?_)
  obtain ⟨rfl, hV18, hF19⟩ := hp17
  change pm_J X 18 [(3, (1, y12)), (1, (1, y10)), (0, (3, 73))] [] 118 V16
  have hF20 := pm_fr.tr hF6 hF19 (by decide)
  refine pm_lload_n hC 1 dX10_weighSurer_18 rfl ?_
  refine pm_aload_n hC 2 (by decide) dX10_weighSurer_19 rfl ?_
  obtain ⟨y21, e22⟩ : ∃ y, V16 73 14 = y := ⟨_, rfl⟩
  have b23 := hV18.get 73 14 (lo := (-9223372036854775808)) (hi := 9223372036854775807) (by decide) (by decide) rfl
  rw [e22] at b23
  refine pm_getf (v := y21) hC 73 fl_X10_53 rfl rfl (by decide) rfl e22 dX10_weighSurer_20 ?_
  refine pm_lmul hC dX10_weighSurer_23 ?_
  refine pm_someL hC (fun y24 b25 => ?_)
  have b25 := And.intro b25.1 b25.2
  refine pm_aload_n hC 2 (by decide) dX10_weighSurer_24 rfl ?_
  refine pm_callV (ci := 10) (as := []) (st := [(1, y24)]) hC 73 c_X10_greatestWeight_73 lm_X10_129 li_X10_greatestWeight (by decide) (by decide) rfl rfl rfl (by decide) rfl rfl (Nat.le_of_ble_eq_true rfl) ⟨Nat.le_refl _, Or.inl rfl⟩ dX10_weighSurer_25 ⟨rfl, hV18⟩ (fun r26 V27 hp28 => ?_)
  obtain ⟨y29, rfl, b30, rfl⟩ := hp28
  change pm_J X 28 [(3, (1, y12)), (1, (1, y10)), (0, (3, 73))] [(1, y29), (1, y24)] 118 V16
  refine pm_lload_n hC 0 dX10_weighSurer_28 rfl ?_
  refine pm_lmul hC dX10_weighSurer_29 ?_
  refine pm_someL hC (fun y31 b32 => ?_)
  have b32 := And.intro b32.1 b32.2
  refine pm_lcmp hC ⟨by omega, by omega⟩ ⟨by omega, by omega⟩ dX10_weighSurer_30 (fun y33 b34 => ?_)
  refine pm_if_le (tgt := 38) hC ⟨by omega, by omega⟩ dX10_weighSurer_31 (by decide) (fun c35 => ?_) (fun c35 => ?_)
  · skip
    exact pm_vret hC hR ⟨rfl, hV18, hF20⟩ dX10_weighSurer_38
  · skip
    refine pm_aload_n hC 2 (by decide) dX10_weighSurer_34 rfl ?_
    refine pm_callV (ci := 10) (as := []) (st := []) hC 73 c_X10_weighFace_73 lm_X10_103 li_X10_weighFace (by decide) (by decide) rfl rfl rfl (by decide) rfl rfl (Nat.le_of_ble_eq_true rfl) ⟨Nat.le_refl _, Or.inl rfl⟩ dX10_weighSurer_35 ⟨rfl, hV18⟩ (fun r36 V37 hp38 => ?_)
    obtain ⟨rfl, hV39, hF40⟩ := hp38
    change pm_J X 38 [(3, (1, y12)), (1, (1, y10)), (0, (3, 73))] [] 118 V37
    have hF41 := pm_fr.tr hF20 hF40 (by decide)
    exact pm_vret hC hR ⟨rfl, hV39, hF41⟩ dX10_weighSurer_38
set_option maxHeartbeats 4000000 in
set_option maxRecDepth 100000 in
theorem c_X10_weighOne_73  : pm_K 2 yX10_weighOne cX10_weighOne 2 none (fun av V => av = [(3, 73)] ∧ pm_ok 0 90 V) (fun _ V r V' => r = none ∧ pm_ok 0 90 V' ∧ pm_fr [73, 76, 77] V V') := by
  refine pm_MT.of (by decide) ⟨Nat.le_refl _, by decide⟩ (fun av V h => by rw [h.1]; exact (by decide : pm_words [(3, 0)] ≤ 2)) ?_
  rintro X av V0 hC - hR ⟨rfl, hV0⟩
  change pm_J X 0 [(0, (3, 73))] [] 118 V0
  refine pm_aload_n hC 0 (by decide) dX10_weighOne_0 rfl ?_
  obtain ⟨y1, e2⟩ : ∃ y, V0 73 12 = y := ⟨_, rfl⟩
  have b3 := hV0.get 73 12 (lo := (-9223372036854775808)) (hi := 9223372036854775807) (by decide) (by decide) rfl
  rw [e2] at b3
  refine pm_getf (v := y1) hC 73 fl_X10_47 rfl rfl (by decide) rfl e2 dX10_weighOne_1 ?_
  refine pm_lconst (x := 0) hC dX10_weighOne_4 rfl ?_
  refine pm_lcmp hC ⟨by omega, by omega⟩ ⟨by decide, by decide⟩ dX10_weighOne_5 (fun y4 b5 => ?_)
  refine pm_if_ne (tgt := 14) hC ⟨by omega, by omega⟩ dX10_weighOne_6 (by decide) (fun c6 => ?_) (fun c6 => ?_)
  · skip
    refine pm_iconst (v := 0) hC dX10_weighOne_14 ?_
    refine pm_istore_n (lv' := [(1, (0, 0)), (0, (3, 73))]) hC dX10_weighOne_15 (by decide) rfl ?_
    have L12 : ∀ (N14 : Nat) (x7 : Int) (V9 : pm_M), (0 ≤ x7 ∧ x7 ≤ 9) → pm_ok 0 90 V9 → pm_fr [73, 76, 77] V0 V9 → (Int.toNat (9 - x7)) = N14 → pm_J X 16 [(0, (3, 73)), (1, (0, x7))] [] 118 V9 := by
      intro N14
      induction N14 using Nat.strongRecOn with
      | _ N14 ih15 =>
      intro x7 V9 b8 hV10 hF11 hm13
      refine pm_iload_n hC 1 dX10_weighOne_16 rfl ?_
      refine pm_aload_n hC 0 (by decide) dX10_weighOne_17 rfl ?_
      rcases hV10.get2 73 0 (lo := 45) (hi := 51) (by decide) (by decide) rfl with e16 | e16
      · skip
        refine pm_getf (v := 45) hC 73 fl_X10_59 rfl rfl (by decide) rfl e16 dX10_weighOne_18 ?_
        obtain ⟨y17, e18⟩ : ∃ y, V9 45 0 = y := ⟨_, rfl⟩
        have b19 := hV10.get 45 0 (lo := 0) (hi := 9) (by decide) (by decide) rfl
        rw [e18] at b19
        refine pm_getf (v := y17) hC 45 fl_X10_79 rfl rfl (by decide) rfl e18 dX10_weighOne_21 ?_
        refine pm_icmp_ge (tgt := 52) hC ⟨by omega, by omega⟩ ⟨by omega, by omega⟩ dX10_weighOne_24 (by decide) (fun c20 => ?_) (fun c20 => ?_)
        · skip
          refine pm_aload_n hC 0 (by decide) dX10_weighOne_52 rfl ?_
          refine pm_aload_n hC 0 (by decide) dX10_weighOne_53 rfl ?_
          obtain ⟨y21, e22⟩ : ∃ y, V9 73 12 = y := ⟨_, rfl⟩
          have b23 := hV10.get 73 12 (lo := (-9223372036854775808)) (hi := 9223372036854775807) (by decide) (by decide) rfl
          rw [e22] at b23
          refine pm_getf (v := y21) hC 73 fl_X10_47 rfl rfl (by decide) rfl e22 dX10_weighOne_54 ?_
          refine pm_putf hC 73 fl_X10_53 rfl rfl rfl (by decide) rfl trivial dX10_weighOne_57 ?_
          exact pm_vret hC hR ⟨rfl, (hV10.put 73 14 (x := y21) (lo := (-9223372036854775808)) (hi := 9223372036854775807) rfl ⟨by omega, by omega⟩), (hF11.up 73 14 y21 rfl)⟩ dX10_weighOne_60
        · skip
          refine pm_aload_n hC 0 (by decide) dX10_weighOne_27 rfl ?_
          rcases hV10.get2 73 13 (lo := 76) (hi := 77) (by decide) (by decide) rfl with e24 | e24
          · skip
            refine pm_getf (v := 76) hC 73 fl_X10_50 rfl rfl (by decide) rfl e24 dX10_weighOne_28 ?_
            refine pm_iload_n hC 1 dX10_weighOne_31 rfl ?_
            refine pm_aload_n hC 0 (by decide) dX10_weighOne_32 rfl ?_
            have e25 : V9 73 8 = 74 := hV10.one 73 8 (by decide) (by decide) rfl
            refine pm_getf (v := 74) hC 73 fl_X10_34 rfl rfl (by decide) rfl e25 dX10_weighOne_33 ?_
            refine pm_iload_n hC 1 dX10_weighOne_36 rfl ?_
            obtain ⟨y26, e27⟩ : ∃ y, V9 74 (x7 : Int).toNat = y := ⟨_, rfl⟩
            have b28 := hV10.get 74 (x7 : Int).toNat (lo := (-9223372036854775808)) (hi := 9223372036854775807) (by decide) (show _ < 9 by omega) rfl
            rw [e27] at b28
            refine pm_laload (len := 9) (v := y26) hC 74 rfl rfl (by decide) ⟨by omega, by omega⟩ (by decide) e27 dX10_weighOne_37 ?_
            refine pm_aload_n hC 0 (by decide) dX10_weighOne_38 rfl ?_
            have e29 : V9 73 9 = 75 := hV10.one 73 9 (by decide) (by decide) rfl
            refine pm_getf (v := 75) hC 73 fl_X10_38 rfl rfl (by decide) rfl e29 dX10_weighOne_39 ?_
            refine pm_iload_n hC 1 dX10_weighOne_42 rfl ?_
            obtain ⟨y30, e31⟩ : ∃ y, V9 75 (x7 : Int).toNat = y := ⟨_, rfl⟩
            have b32 := hV10.get 75 (x7 : Int).toNat (lo := (-9223372036854775808)) (hi := 9223372036854775807) (by decide) (show _ < 9 by omega) rfl
            rw [e31] at b32
            refine pm_laload (len := 9) (v := y30) hC 75 rfl rfl (by decide) ⟨by omega, by omega⟩ (by decide) e31 dX10_weighOne_43 ?_
            refine pm_lmul hC dX10_weighOne_44 ?_
            refine pm_someL hC (fun y33 b34 => ?_)
            have b34 := And.intro b34.1 b34.2
            refine pm_lastore (len := 9) hC 76 rfl rfl (by decide) ⟨by omega, by omega⟩ (by decide) dX10_weighOne_45 ?_
            obtain ⟨x35, ei36⟩ : ∃ y : Int, x7 + 1 = y := ⟨_, rfl⟩
            refine pm_iinc (y := x35) (lv' := [(1, (0, x35)), (0, (3, 73))]) hC 1 dX10_weighOne_46 (by decide) rfl ei36 rfl ?_
            refine pm_goto (tgt := 16) hC dX10_weighOne_49 (by decide) ?_
            refine pm_lvsub [1, 0] (lv' := [(0, (3, 73)), (1, (0, x35))]) rfl ?_
            exact ih15 _ (by omega) x35 (pm_up V9 76 (x7 : Int).toNat y33) ⟨by omega, by omega⟩ (hV10.put 76 (x7 : Int).toNat (x := y33) (lo := (-9223372036854775808)) (hi := 9223372036854775807) rfl ⟨by omega, by omega⟩) (hF11.up 76 (x7 : Int).toNat y33 rfl) rfl
          · skip
            refine pm_getf (v := 77) hC 73 fl_X10_50 rfl rfl (by decide) rfl e24 dX10_weighOne_28 ?_
            refine pm_iload_n hC 1 dX10_weighOne_31 rfl ?_
            refine pm_aload_n hC 0 (by decide) dX10_weighOne_32 rfl ?_
            have e37 : V9 73 8 = 74 := hV10.one 73 8 (by decide) (by decide) rfl
            refine pm_getf (v := 74) hC 73 fl_X10_34 rfl rfl (by decide) rfl e37 dX10_weighOne_33 ?_
            refine pm_iload_n hC 1 dX10_weighOne_36 rfl ?_
            obtain ⟨y38, e39⟩ : ∃ y, V9 74 (x7 : Int).toNat = y := ⟨_, rfl⟩
            have b40 := hV10.get 74 (x7 : Int).toNat (lo := (-9223372036854775808)) (hi := 9223372036854775807) (by decide) (show _ < 9 by omega) rfl
            rw [e39] at b40
            refine pm_laload (len := 9) (v := y38) hC 74 rfl rfl (by decide) ⟨by omega, by omega⟩ (by decide) e39 dX10_weighOne_37 ?_
            refine pm_aload_n hC 0 (by decide) dX10_weighOne_38 rfl ?_
            have e41 : V9 73 9 = 75 := hV10.one 73 9 (by decide) (by decide) rfl
            refine pm_getf (v := 75) hC 73 fl_X10_38 rfl rfl (by decide) rfl e41 dX10_weighOne_39 ?_
            refine pm_iload_n hC 1 dX10_weighOne_42 rfl ?_
            obtain ⟨y42, e43⟩ : ∃ y, V9 75 (x7 : Int).toNat = y := ⟨_, rfl⟩
            have b44 := hV10.get 75 (x7 : Int).toNat (lo := (-9223372036854775808)) (hi := 9223372036854775807) (by decide) (show _ < 9 by omega) rfl
            rw [e43] at b44
            refine pm_laload (len := 9) (v := y42) hC 75 rfl rfl (by decide) ⟨by omega, by omega⟩ (by decide) e43 dX10_weighOne_43 ?_
            refine pm_lmul hC dX10_weighOne_44 ?_
            refine pm_someL hC (fun y45 b46 => ?_)
            have b46 := And.intro b46.1 b46.2
            refine pm_lastore (len := 9) hC 77 rfl rfl (by decide) ⟨by omega, by omega⟩ (by decide) dX10_weighOne_45 ?_
            obtain ⟨x47, ei48⟩ : ∃ y : Int, x7 + 1 = y := ⟨_, rfl⟩
            refine pm_iinc (y := x47) (lv' := [(1, (0, x47)), (0, (3, 73))]) hC 1 dX10_weighOne_46 (by decide) rfl ei48 rfl ?_
            refine pm_goto (tgt := 16) hC dX10_weighOne_49 (by decide) ?_
            refine pm_lvsub [1, 0] (lv' := [(0, (3, 73)), (1, (0, x47))]) rfl ?_
            exact ih15 _ (by omega) x47 (pm_up V9 77 (x7 : Int).toNat y45) ⟨by omega, by omega⟩ (hV10.put 77 (x7 : Int).toNat (x := y45) (lo := (-9223372036854775808)) (hi := 9223372036854775807) rfl ⟨by omega, by omega⟩) (hF11.up 77 (x7 : Int).toNat y45 rfl) rfl
      · skip
        refine pm_getf (v := 51) hC 73 fl_X10_59 rfl rfl (by decide) rfl e16 dX10_weighOne_18 ?_
        obtain ⟨y49, e50⟩ : ∃ y, V9 51 0 = y := ⟨_, rfl⟩
        have b51 := hV10.get 51 0 (lo := 0) (hi := 9) (by decide) (by decide) rfl
        rw [e50] at b51
        refine pm_getf (v := y49) hC 51 fl_X10_79 rfl rfl (by decide) rfl e50 dX10_weighOne_21 ?_
        refine pm_icmp_ge (tgt := 52) hC ⟨by omega, by omega⟩ ⟨by omega, by omega⟩ dX10_weighOne_24 (by decide) (fun c52 => ?_) (fun c52 => ?_)
        · skip
          refine pm_aload_n hC 0 (by decide) dX10_weighOne_52 rfl ?_
          refine pm_aload_n hC 0 (by decide) dX10_weighOne_53 rfl ?_
          obtain ⟨y53, e54⟩ : ∃ y, V9 73 12 = y := ⟨_, rfl⟩
          have b55 := hV10.get 73 12 (lo := (-9223372036854775808)) (hi := 9223372036854775807) (by decide) (by decide) rfl
          rw [e54] at b55
          refine pm_getf (v := y53) hC 73 fl_X10_47 rfl rfl (by decide) rfl e54 dX10_weighOne_54 ?_
          refine pm_putf hC 73 fl_X10_53 rfl rfl rfl (by decide) rfl trivial dX10_weighOne_57 ?_
          exact pm_vret hC hR ⟨rfl, (hV10.put 73 14 (x := y53) (lo := (-9223372036854775808)) (hi := 9223372036854775807) rfl ⟨by omega, by omega⟩), (hF11.up 73 14 y53 rfl)⟩ dX10_weighOne_60
        · skip
          refine pm_aload_n hC 0 (by decide) dX10_weighOne_27 rfl ?_
          rcases hV10.get2 73 13 (lo := 76) (hi := 77) (by decide) (by decide) rfl with e56 | e56
          · skip
            refine pm_getf (v := 76) hC 73 fl_X10_50 rfl rfl (by decide) rfl e56 dX10_weighOne_28 ?_
            refine pm_iload_n hC 1 dX10_weighOne_31 rfl ?_
            refine pm_aload_n hC 0 (by decide) dX10_weighOne_32 rfl ?_
            have e57 : V9 73 8 = 74 := hV10.one 73 8 (by decide) (by decide) rfl
            refine pm_getf (v := 74) hC 73 fl_X10_34 rfl rfl (by decide) rfl e57 dX10_weighOne_33 ?_
            refine pm_iload_n hC 1 dX10_weighOne_36 rfl ?_
            obtain ⟨y58, e59⟩ : ∃ y, V9 74 (x7 : Int).toNat = y := ⟨_, rfl⟩
            have b60 := hV10.get 74 (x7 : Int).toNat (lo := (-9223372036854775808)) (hi := 9223372036854775807) (by decide) (show _ < 9 by omega) rfl
            rw [e59] at b60
            refine pm_laload (len := 9) (v := y58) hC 74 rfl rfl (by decide) ⟨by omega, by omega⟩ (by decide) e59 dX10_weighOne_37 ?_
            refine pm_aload_n hC 0 (by decide) dX10_weighOne_38 rfl ?_
            have e61 : V9 73 9 = 75 := hV10.one 73 9 (by decide) (by decide) rfl
            refine pm_getf (v := 75) hC 73 fl_X10_38 rfl rfl (by decide) rfl e61 dX10_weighOne_39 ?_
            refine pm_iload_n hC 1 dX10_weighOne_42 rfl ?_
            obtain ⟨y62, e63⟩ : ∃ y, V9 75 (x7 : Int).toNat = y := ⟨_, rfl⟩
            have b64 := hV10.get 75 (x7 : Int).toNat (lo := (-9223372036854775808)) (hi := 9223372036854775807) (by decide) (show _ < 9 by omega) rfl
            rw [e63] at b64
            refine pm_laload (len := 9) (v := y62) hC 75 rfl rfl (by decide) ⟨by omega, by omega⟩ (by decide) e63 dX10_weighOne_43 ?_
            refine pm_lmul hC dX10_weighOne_44 ?_
            refine pm_someL hC (fun y65 b66 => ?_)
            have b66 := And.intro b66.1 b66.2
            refine pm_lastore (len := 9) hC 76 rfl rfl (by decide) ⟨by omega, by omega⟩ (by decide) dX10_weighOne_45 ?_
            obtain ⟨x67, ei68⟩ : ∃ y : Int, x7 + 1 = y := ⟨_, rfl⟩
            refine pm_iinc (y := x67) (lv' := [(1, (0, x67)), (0, (3, 73))]) hC 1 dX10_weighOne_46 (by decide) rfl ei68 rfl ?_
            refine pm_goto (tgt := 16) hC dX10_weighOne_49 (by decide) ?_
            refine pm_lvsub [1, 0] (lv' := [(0, (3, 73)), (1, (0, x67))]) rfl ?_
            exact ih15 _ (by omega) x67 (pm_up V9 76 (x7 : Int).toNat y65) ⟨by omega, by omega⟩ (hV10.put 76 (x7 : Int).toNat (x := y65) (lo := (-9223372036854775808)) (hi := 9223372036854775807) rfl ⟨by omega, by omega⟩) (hF11.up 76 (x7 : Int).toNat y65 rfl) rfl
          · skip
            refine pm_getf (v := 77) hC 73 fl_X10_50 rfl rfl (by decide) rfl e56 dX10_weighOne_28 ?_
            refine pm_iload_n hC 1 dX10_weighOne_31 rfl ?_
            refine pm_aload_n hC 0 (by decide) dX10_weighOne_32 rfl ?_
            have e69 : V9 73 8 = 74 := hV10.one 73 8 (by decide) (by decide) rfl
            refine pm_getf (v := 74) hC 73 fl_X10_34 rfl rfl (by decide) rfl e69 dX10_weighOne_33 ?_
            refine pm_iload_n hC 1 dX10_weighOne_36 rfl ?_
            obtain ⟨y70, e71⟩ : ∃ y, V9 74 (x7 : Int).toNat = y := ⟨_, rfl⟩
            have b72 := hV10.get 74 (x7 : Int).toNat (lo := (-9223372036854775808)) (hi := 9223372036854775807) (by decide) (show _ < 9 by omega) rfl
            rw [e71] at b72
            refine pm_laload (len := 9) (v := y70) hC 74 rfl rfl (by decide) ⟨by omega, by omega⟩ (by decide) e71 dX10_weighOne_37 ?_
            refine pm_aload_n hC 0 (by decide) dX10_weighOne_38 rfl ?_
            have e73 : V9 73 9 = 75 := hV10.one 73 9 (by decide) (by decide) rfl
            refine pm_getf (v := 75) hC 73 fl_X10_38 rfl rfl (by decide) rfl e73 dX10_weighOne_39 ?_
            refine pm_iload_n hC 1 dX10_weighOne_42 rfl ?_
            obtain ⟨y74, e75⟩ : ∃ y, V9 75 (x7 : Int).toNat = y := ⟨_, rfl⟩
            have b76 := hV10.get 75 (x7 : Int).toNat (lo := (-9223372036854775808)) (hi := 9223372036854775807) (by decide) (show _ < 9 by omega) rfl
            rw [e75] at b76
            refine pm_laload (len := 9) (v := y74) hC 75 rfl rfl (by decide) ⟨by omega, by omega⟩ (by decide) e75 dX10_weighOne_43 ?_
            refine pm_lmul hC dX10_weighOne_44 ?_
            refine pm_someL hC (fun y77 b78 => ?_)
            have b78 := And.intro b78.1 b78.2
            refine pm_lastore (len := 9) hC 77 rfl rfl (by decide) ⟨by omega, by omega⟩ (by decide) dX10_weighOne_45 ?_
            obtain ⟨x79, ei80⟩ : ∃ y : Int, x7 + 1 = y := ⟨_, rfl⟩
            refine pm_iinc (y := x79) (lv' := [(1, (0, x79)), (0, (3, 73))]) hC 1 dX10_weighOne_46 (by decide) rfl ei80 rfl ?_
            refine pm_goto (tgt := 16) hC dX10_weighOne_49 (by decide) ?_
            refine pm_lvsub [1, 0] (lv' := [(0, (3, 73)), (1, (0, x79))]) rfl ?_
            exact ih15 _ (by omega) x79 (pm_up V9 77 (x7 : Int).toNat y77) ⟨by omega, by omega⟩ (hV10.put 77 (x7 : Int).toNat (x := y77) (lo := (-9223372036854775808)) (hi := 9223372036854775807) rfl ⟨by omega, by omega⟩) (hF11.up 77 (x7 : Int).toNat y77 rfl) rfl
    refine pm_lvsub [1, 0] (lv' := [(0, (3, 73)), (1, (0, 0))]) rfl ?_
    exact L12 _ 0 V0 ⟨by decide, by decide⟩ hV0 (pm_fr.rf (ws := [73, 76, 77]) (V := V0)) rfl
  · skip
    refine pm_aload_n hC 0 (by decide) dX10_weighOne_9 rfl ?_
    refine pm_callV (ci := 10) (as := []) (st := []) hC 73 c_X10_weighVoice_73 lm_X10_126 li_X10_weighVoice (by decide) (by decide) rfl rfl rfl (by decide) rfl rfl (Nat.le_of_ble_eq_true rfl) ⟨Nat.le_refl _, Or.inl rfl⟩ dX10_weighOne_10 ⟨rfl, hV0⟩ (fun r81 V82 hp83 => ?_)
    obtain ⟨rfl, hV84, hF85⟩ := hp83
    change pm_J X 13 [(0, (3, 73))] [] 118 V82
    have hF86 := pm_fr.tr (pm_fr.rf (ws := [73, 76, 77]) (V := V0)) hF85 (by decide)
    exact pm_vret hC hR ⟨rfl, hV84, hF86⟩ dX10_weighOne_13
set_option maxHeartbeats 4000000 in
set_option maxRecDepth 100000 in
theorem c_X10_weighOdds_73  : pm_K 2 yX10_weighOdds cX10_weighOdds 6 none (fun av V => av = [(3, 73)] ∧ pm_ok 0 90 V) (fun _ V r V' => r = none ∧ pm_ok 0 90 V' ∧ pm_fr [73, 76, 77] V V') := by
  refine pm_MT.of (by decide) ⟨Nat.le_refl _, by decide⟩ (fun av V h => by rw [h.1]; exact (by decide : pm_words [(3, 0)] ≤ 6)) ?_
  rintro X av V0 hC - hR ⟨rfl, hV0⟩
  change pm_J X 0 [(0, (3, 73))] [] 118 V0
  refine pm_aload_n hC 0 (by decide) dX10_weighOdds_0 rfl ?_
  obtain ⟨y1, e2⟩ : ∃ y, V0 73 7 = y := ⟨_, rfl⟩
  have b3 := hV0.get 73 7 (lo := (-9223372036854775808)) (hi := 9223372036854775807) (by decide) (by decide) rfl
  rw [e2] at b3
  refine pm_getf (v := y1) hC 73 fl_X10_30 rfl rfl (by decide) rfl e2 dX10_weighOdds_1 ?_
  refine pm_aload_n hC 0 (by decide) dX10_weighOdds_4 rfl ?_
  rcases hV0.get2 73 0 (lo := 45) (hi := 51) (by decide) (by decide) rfl with e4 | e4
  · skip
    refine pm_getf (v := 45) hC 73 fl_X10_59 rfl rfl (by decide) rfl e4 dX10_weighOdds_5 ?_
    obtain ⟨y5, e6⟩ : ∃ y, V0 45 0 = y := ⟨_, rfl⟩
    have b7 := hV0.get 45 0 (lo := 0) (hi := 9) (by decide) (by decide) rfl
    rw [e6] at b7
    refine pm_getf (v := y5) hC 45 fl_X10_79 rfl rfl (by decide) rfl e6 dX10_weighOdds_8 ?_
    refine pm_i2l hC ⟨by omega, by omega⟩ dX10_weighOdds_11 ?_
    refine pm_lmul hC dX10_weighOdds_12 ?_
    refine pm_someL hC (fun y8 b9 => ?_)
    have b9 := And.intro b9.1 b9.2
    refine pm_lstore_n (lv' := [(1, (1, y8)), (0, (3, 73))]) hC dX10_weighOdds_13 (by decide) rfl ?_
    refine pm_ldc2 (v := 16) hC 4057 dX10_weighOdds_14 (by decide +kernel) ?_
    refine pm_aload_n hC 1 (by decide) dX10_weighOdds_17 rfl ?_
    refine pm_getf (v := y1) hC 73 fl_X10_30 rfl rfl (by decide) rfl e2 dX10_weighOdds_18 ?_
    refine pm_lsub hC dX10_weighOdds_21 ?_
    refine pm_someL hC (fun y10 b11 => ?_)
    have b11 := And.intro b11.1 b11.2
    refine pm_aload_n hC 1 (by decide) dX10_weighOdds_22 rfl ?_
    obtain ⟨y12, e13⟩ : ∃ y, V0 73 11 = y := ⟨_, rfl⟩
    have b14 := hV0.get 73 11 (lo := (-9223372036854775808)) (hi := 9223372036854775807) (by decide) (by decide) rfl
    rw [e13] at b14
    refine pm_getf (v := y12) hC 73 fl_X10_44 rfl rfl (by decide) rfl e13 dX10_weighOdds_23 ?_
    refine pm_lmul hC dX10_weighOdds_26 ?_
    refine pm_someL hC (fun y15 b16 => ?_)
    have b16 := And.intro b16.1 b16.2
    refine pm_lstore_n (lv' := [(3, (1, y15)), (1, (1, y8)), (0, (3, 73))]) hC dX10_weighOdds_27 (by decide) rfl ?_
    refine pm_aload_n hC 2 (by decide) dX10_weighOdds_28 rfl ?_
    refine pm_lload_n hC 1 dX10_weighOdds_29 rfl ?_
    refine pm_aload_n hC 2 (by decide) dX10_weighOdds_30 rfl ?_
    obtain ⟨y17, e18⟩ : ∃ y, V0 73 12 = y := ⟨_, rfl⟩
    have b19 := hV0.get 73 12 (lo := (-9223372036854775808)) (hi := 9223372036854775807) (by decide) (by decide) rfl
    rw [e18] at b19
    refine pm_getf (v := y17) hC 73 fl_X10_47 rfl rfl (by decide) rfl e18 dX10_weighOdds_31 ?_
    refine pm_lmul hC dX10_weighOdds_34 ?_
    refine pm_someL hC (fun y20 b21 => ?_)
    have b21 := And.intro b21.1 b21.2
    refine pm_lload_n hC 0 dX10_weighOdds_35 rfl ?_
    refine pm_aload_n hC 2 (by decide) dX10_weighOdds_36 rfl ?_
    obtain ⟨y22, e23⟩ : ∃ y, V0 73 10 = y := ⟨_, rfl⟩
    have b24 := hV0.get 73 10 (lo := (-9223372036854775808)) (hi := 9223372036854775807) (by decide) (by decide) rfl
    rw [e23] at b24
    refine pm_getf (v := y22) hC 73 fl_X10_41 rfl rfl (by decide) rfl e23 dX10_weighOdds_37 ?_
    refine pm_lmul hC dX10_weighOdds_40 ?_
    refine pm_someL hC (fun y25 b26 => ?_)
    have b26 := And.intro b26.1 b26.2
    refine pm_ladd hC dX10_weighOdds_41 ?_
    refine pm_someL hC (fun y27 b28 => ?_)
    have b28 := And.intro b28.1 b28.2
    refine pm_putf hC 73 fl_X10_53 rfl rfl rfl (by decide) rfl trivial dX10_weighOdds_42 ?_
    refine pm_aload_n hC 2 (by decide) dX10_weighOdds_45 rfl ?_
    refine pm_getf (v := y27) hC 73 fl_X10_53 rfl rfl (by decide) rfl rfl dX10_weighOdds_46 ?_
    refine pm_lconst (x := 0) hC dX10_weighOdds_49 rfl ?_
    refine pm_lcmp hC ⟨by omega, by omega⟩ ⟨by decide, by decide⟩ dX10_weighOdds_50 (fun y29 b30 => ?_)
    refine pm_if_ne (tgt := 59) hC ⟨by omega, by omega⟩ dX10_weighOdds_51 (by decide) (fun c31 => ?_) (fun c31 => ?_)
    · skip
      refine pm_iconst (v := 0) hC dX10_weighOdds_59 ?_
      refine pm_istore (lv' := [(5, (0, 0)), (3, (1, y15)), (1, (1, y8)), (0, (3, 73))]) hC dX10_weighOdds_60 (by decide) rfl ?_
      have hV34 := (hV0.put 73 14 (x := y27) (lo := (-9223372036854775808)) (hi := 9223372036854775807) rfl ⟨by omega, by omega⟩)
      have hF35 := ((pm_fr.rf (ws := [73, 76, 77]) (V := V0)).up 73 14 y27 rfl)
      obtain ⟨V32, hv33⟩ : ∃ V, V = (pm_up V0 73 14 y27) := ⟨_, rfl⟩
      rw [← hv33] at hV34 hF35
      rw [← hv33]
      have e36 : V32 73 7 = y1 := by rw [hv33]; exact e2
      have e37 : V32 73 0 = 45 := by rw [hv33]; exact e4
      have e38 : V32 45 0 = y5 := by rw [hv33]; exact e6
      have e39 : V32 73 11 = y12 := by rw [hv33]; exact e13
      have e40 : V32 73 12 = y17 := by rw [hv33]; exact e18
      have e41 : V32 73 10 = y22 := by rw [hv33]; exact e23
      have e42 : V32 73 14 = y27 := by rw [hv33]; rfl
      have L55 : ∀ (N57 : Nat) (x43 : Int) (V45 : pm_M), (0 ≤ x43 ∧ x43 ≤ 9) → pm_ok 0 90 V45 → pm_fr [73, 76, 77] V0 V45 → V45 73 7 = y1 → V45 73 0 = 45 → V45 45 0 = y5 → V45 73 11 = y12 → V45 73 12 = y17 → V45 73 10 = y22 → V45 73 14 = y27 → (Int.toNat (9 - x43)) = N57 → pm_J X 62 [(0, (3, 73)), (1, (1, y8)), (3, (1, y15)), (5, (0, x43))] [] 118 V45 := by
        intro N57
        induction N57 using Nat.strongRecOn with
        | _ N57 ih58 =>
        intro x43 V45 b44 hV46 hF47 e48 e49 e50 e51 e52 e53 e54 hm56
        refine pm_iload hC 3 dX10_weighOdds_62 rfl ?_
        refine pm_aload_n hC 0 (by decide) dX10_weighOdds_64 rfl ?_
        refine pm_getf (v := 45) hC 73 fl_X10_59 rfl rfl (by decide) rfl e49 dX10_weighOdds_65 ?_
        refine pm_getf (v := y5) hC 45 fl_X10_79 rfl rfl (by decide) rfl e50 dX10_weighOdds_68 ?_
        refine pm_icmp_ge (tgt := 106) hC ⟨by omega, by omega⟩ ⟨by omega, by omega⟩ dX10_weighOdds_71 (by decide) (fun c59 => ?_) (fun c59 => ?_)
        · skip
          exact pm_vret hC hR ⟨rfl, hV46, hF47⟩ dX10_weighOdds_106
        · skip
          refine pm_aload_n hC 0 (by decide) dX10_weighOdds_74 rfl ?_
          rcases hV46.get2 73 13 (lo := 76) (hi := 77) (by decide) (by decide) rfl with e60 | e60
          · skip
            refine pm_getf (v := 76) hC 73 fl_X10_50 rfl rfl (by decide) rfl e60 dX10_weighOdds_75 ?_
            refine pm_iload hC 3 dX10_weighOdds_78 rfl ?_
            refine pm_aload_n hC 0 (by decide) dX10_weighOdds_80 rfl ?_
            have e61 : V45 73 8 = 74 := hV46.one 73 8 (by decide) (by decide) rfl
            refine pm_getf (v := 74) hC 73 fl_X10_34 rfl rfl (by decide) rfl e61 dX10_weighOdds_81 ?_
            refine pm_iload hC 3 dX10_weighOdds_84 rfl ?_
            obtain ⟨y62, e63⟩ : ∃ y, V45 74 (x43 : Int).toNat = y := ⟨_, rfl⟩
            have b64 := hV46.get 74 (x43 : Int).toNat (lo := (-9223372036854775808)) (hi := 9223372036854775807) (by decide) (show _ < 9 by omega) rfl
            rw [e63] at b64
            refine pm_laload (len := 9) (v := y62) hC 74 rfl rfl (by decide) ⟨by omega, by omega⟩ (by decide) e63 dX10_weighOdds_86 ?_
            refine pm_lload_n hC 1 dX10_weighOdds_87 rfl ?_
            refine pm_aload_n hC 0 (by decide) dX10_weighOdds_88 rfl ?_
            have e65 : V45 73 9 = 75 := hV46.one 73 9 (by decide) (by decide) rfl
            refine pm_getf (v := 75) hC 73 fl_X10_38 rfl rfl (by decide) rfl e65 dX10_weighOdds_89 ?_
            refine pm_iload hC 3 dX10_weighOdds_92 rfl ?_
            obtain ⟨y66, e67⟩ : ∃ y, V45 75 (x43 : Int).toNat = y := ⟨_, rfl⟩
            have b68 := hV46.get 75 (x43 : Int).toNat (lo := (-9223372036854775808)) (hi := 9223372036854775807) (by decide) (show _ < 9 by omega) rfl
            rw [e67] at b68
            refine pm_laload (len := 9) (v := y66) hC 75 rfl rfl (by decide) ⟨by omega, by omega⟩ (by decide) e67 dX10_weighOdds_94 ?_
            refine pm_lmul hC dX10_weighOdds_95 ?_
            refine pm_someL hC (fun y69 b70 => ?_)
            have b70 := And.intro b70.1 b70.2
            refine pm_lload_n hC 2 dX10_weighOdds_96 rfl ?_
            refine pm_ladd hC dX10_weighOdds_97 ?_
            refine pm_someL hC (fun y71 b72 => ?_)
            have b72 := And.intro b72.1 b72.2
            refine pm_lmul hC dX10_weighOdds_98 ?_
            refine pm_someL hC (fun y73 b74 => ?_)
            have b74 := And.intro b74.1 b74.2
            refine pm_lastore (len := 9) hC 76 rfl rfl (by decide) ⟨by omega, by omega⟩ (by decide) dX10_weighOdds_99 ?_
            obtain ⟨x75, ei76⟩ : ∃ y : Int, x43 + 1 = y := ⟨_, rfl⟩
            refine pm_iinc (y := x75) (lv' := [(5, (0, x75)), (0, (3, 73)), (1, (1, y8)), (3, (1, y15))]) hC 3 dX10_weighOdds_100 (by decide) rfl ei76 rfl ?_
            refine pm_goto (tgt := 62) hC dX10_weighOdds_103 (by decide) ?_
            refine pm_lvsub [1, 2, 3, 0] (lv' := [(0, (3, 73)), (1, (1, y8)), (3, (1, y15)), (5, (0, x75))]) rfl ?_
            exact ih58 _ (by omega) x75 (pm_up V45 76 (x43 : Int).toNat y73) ⟨by omega, by omega⟩ (hV46.put 76 (x43 : Int).toNat (x := y73) (lo := (-9223372036854775808)) (hi := 9223372036854775807) rfl ⟨by omega, by omega⟩) (hF47.up 76 (x43 : Int).toNat y73 rfl) e48 e49 e50 e51 e52 e53 e54 rfl
          · skip
            refine pm_getf (v := 77) hC 73 fl_X10_50 rfl rfl (by decide) rfl e60 dX10_weighOdds_75 ?_
            refine pm_iload hC 3 dX10_weighOdds_78 rfl ?_
            refine pm_aload_n hC 0 (by decide) dX10_weighOdds_80 rfl ?_
            have e77 : V45 73 8 = 74 := hV46.one 73 8 (by decide) (by decide) rfl
            refine pm_getf (v := 74) hC 73 fl_X10_34 rfl rfl (by decide) rfl e77 dX10_weighOdds_81 ?_
            refine pm_iload hC 3 dX10_weighOdds_84 rfl ?_
            obtain ⟨y78, e79⟩ : ∃ y, V45 74 (x43 : Int).toNat = y := ⟨_, rfl⟩
            have b80 := hV46.get 74 (x43 : Int).toNat (lo := (-9223372036854775808)) (hi := 9223372036854775807) (by decide) (show _ < 9 by omega) rfl
            rw [e79] at b80
            refine pm_laload (len := 9) (v := y78) hC 74 rfl rfl (by decide) ⟨by omega, by omega⟩ (by decide) e79 dX10_weighOdds_86 ?_
            refine pm_lload_n hC 1 dX10_weighOdds_87 rfl ?_
            refine pm_aload_n hC 0 (by decide) dX10_weighOdds_88 rfl ?_
            have e81 : V45 73 9 = 75 := hV46.one 73 9 (by decide) (by decide) rfl
            refine pm_getf (v := 75) hC 73 fl_X10_38 rfl rfl (by decide) rfl e81 dX10_weighOdds_89 ?_
            refine pm_iload hC 3 dX10_weighOdds_92 rfl ?_
            obtain ⟨y82, e83⟩ : ∃ y, V45 75 (x43 : Int).toNat = y := ⟨_, rfl⟩
            have b84 := hV46.get 75 (x43 : Int).toNat (lo := (-9223372036854775808)) (hi := 9223372036854775807) (by decide) (show _ < 9 by omega) rfl
            rw [e83] at b84
            refine pm_laload (len := 9) (v := y82) hC 75 rfl rfl (by decide) ⟨by omega, by omega⟩ (by decide) e83 dX10_weighOdds_94 ?_
            refine pm_lmul hC dX10_weighOdds_95 ?_
            refine pm_someL hC (fun y85 b86 => ?_)
            have b86 := And.intro b86.1 b86.2
            refine pm_lload_n hC 2 dX10_weighOdds_96 rfl ?_
            refine pm_ladd hC dX10_weighOdds_97 ?_
            refine pm_someL hC (fun y87 b88 => ?_)
            have b88 := And.intro b88.1 b88.2
            refine pm_lmul hC dX10_weighOdds_98 ?_
            refine pm_someL hC (fun y89 b90 => ?_)
            have b90 := And.intro b90.1 b90.2
            refine pm_lastore (len := 9) hC 77 rfl rfl (by decide) ⟨by omega, by omega⟩ (by decide) dX10_weighOdds_99 ?_
            obtain ⟨x91, ei92⟩ : ∃ y : Int, x43 + 1 = y := ⟨_, rfl⟩
            refine pm_iinc (y := x91) (lv' := [(5, (0, x91)), (0, (3, 73)), (1, (1, y8)), (3, (1, y15))]) hC 3 dX10_weighOdds_100 (by decide) rfl ei92 rfl ?_
            refine pm_goto (tgt := 62) hC dX10_weighOdds_103 (by decide) ?_
            refine pm_lvsub [1, 2, 3, 0] (lv' := [(0, (3, 73)), (1, (1, y8)), (3, (1, y15)), (5, (0, x91))]) rfl ?_
            exact ih58 _ (by omega) x91 (pm_up V45 77 (x43 : Int).toNat y89) ⟨by omega, by omega⟩ (hV46.put 77 (x43 : Int).toNat (x := y89) (lo := (-9223372036854775808)) (hi := 9223372036854775807) rfl ⟨by omega, by omega⟩) (hF47.up 77 (x43 : Int).toNat y89 rfl) e48 e49 e50 e51 e52 e53 e54 rfl
      refine pm_lvsub [3, 2, 1, 0] (lv' := [(0, (3, 73)), (1, (1, y8)), (3, (1, y15)), (5, (0, 0))]) rfl ?_
      exact L55 _ 0 V32 ⟨by decide, by decide⟩ hV34 hF35 e36 e37 e38 e39 e40 e41 e42 rfl
    · skip
      refine pm_aload_n hC 2 (by decide) dX10_weighOdds_54 rfl ?_
      refine pm_callV (ci := 10) (as := []) (st := []) hC 73 c_X10_weighVoice_73 lm_X10_126 li_X10_weighVoice (by decide) (by decide) rfl rfl rfl (by decide) rfl rfl (Nat.le_of_ble_eq_true rfl) ⟨Nat.le_refl _, Or.inl rfl⟩ dX10_weighOdds_55 ⟨rfl, (hV0.put 73 14 (x := y27) (lo := (-9223372036854775808)) (hi := 9223372036854775807) rfl ⟨by omega, by omega⟩)⟩ (fun r93 V94 hp95 => ?_)
      obtain ⟨rfl, hV96, hF97⟩ := hp95
      change pm_J X 58 [(3, (1, y15)), (1, (1, y8)), (0, (3, 73))] [] 118 V94
      have hF98 := pm_fr.tr ((pm_fr.rf (ws := [73, 76, 77]) (V := V0)).up 73 14 y27 rfl) hF97 (by decide)
      have e99 : V94 45 0 = y5 := by rw [hF97 45 (by decide)]; exact e6
      exact pm_vret hC hR ⟨rfl, hV96, hF98⟩ dX10_weighOdds_58
  · skip
    refine pm_getf (v := 51) hC 73 fl_X10_59 rfl rfl (by decide) rfl e4 dX10_weighOdds_5 ?_
    obtain ⟨y100, e101⟩ : ∃ y, V0 51 0 = y := ⟨_, rfl⟩
    have b102 := hV0.get 51 0 (lo := 0) (hi := 9) (by decide) (by decide) rfl
    rw [e101] at b102
    refine pm_getf (v := y100) hC 51 fl_X10_79 rfl rfl (by decide) rfl e101 dX10_weighOdds_8 ?_
    refine pm_i2l hC ⟨by omega, by omega⟩ dX10_weighOdds_11 ?_
    refine pm_lmul hC dX10_weighOdds_12 ?_
    refine pm_someL hC (fun y103 b104 => ?_)
    have b104 := And.intro b104.1 b104.2
    refine pm_lstore_n (lv' := [(1, (1, y103)), (0, (3, 73))]) hC dX10_weighOdds_13 (by decide) rfl ?_
    refine pm_ldc2 (v := 16) hC 4057 dX10_weighOdds_14 (by decide +kernel) ?_
    refine pm_aload_n hC 1 (by decide) dX10_weighOdds_17 rfl ?_
    refine pm_getf (v := y1) hC 73 fl_X10_30 rfl rfl (by decide) rfl e2 dX10_weighOdds_18 ?_
    refine pm_lsub hC dX10_weighOdds_21 ?_
    refine pm_someL hC (fun y105 b106 => ?_)
    have b106 := And.intro b106.1 b106.2
    refine pm_aload_n hC 1 (by decide) dX10_weighOdds_22 rfl ?_
    obtain ⟨y107, e108⟩ : ∃ y, V0 73 11 = y := ⟨_, rfl⟩
    have b109 := hV0.get 73 11 (lo := (-9223372036854775808)) (hi := 9223372036854775807) (by decide) (by decide) rfl
    rw [e108] at b109
    refine pm_getf (v := y107) hC 73 fl_X10_44 rfl rfl (by decide) rfl e108 dX10_weighOdds_23 ?_
    refine pm_lmul hC dX10_weighOdds_26 ?_
    refine pm_someL hC (fun y110 b111 => ?_)
    have b111 := And.intro b111.1 b111.2
    refine pm_lstore_n (lv' := [(3, (1, y110)), (1, (1, y103)), (0, (3, 73))]) hC dX10_weighOdds_27 (by decide) rfl ?_
    refine pm_aload_n hC 2 (by decide) dX10_weighOdds_28 rfl ?_
    refine pm_lload_n hC 1 dX10_weighOdds_29 rfl ?_
    refine pm_aload_n hC 2 (by decide) dX10_weighOdds_30 rfl ?_
    obtain ⟨y112, e113⟩ : ∃ y, V0 73 12 = y := ⟨_, rfl⟩
    have b114 := hV0.get 73 12 (lo := (-9223372036854775808)) (hi := 9223372036854775807) (by decide) (by decide) rfl
    rw [e113] at b114
    refine pm_getf (v := y112) hC 73 fl_X10_47 rfl rfl (by decide) rfl e113 dX10_weighOdds_31 ?_
    refine pm_lmul hC dX10_weighOdds_34 ?_
    refine pm_someL hC (fun y115 b116 => ?_)
    have b116 := And.intro b116.1 b116.2
    refine pm_lload_n hC 0 dX10_weighOdds_35 rfl ?_
    refine pm_aload_n hC 2 (by decide) dX10_weighOdds_36 rfl ?_
    obtain ⟨y117, e118⟩ : ∃ y, V0 73 10 = y := ⟨_, rfl⟩
    have b119 := hV0.get 73 10 (lo := (-9223372036854775808)) (hi := 9223372036854775807) (by decide) (by decide) rfl
    rw [e118] at b119
    refine pm_getf (v := y117) hC 73 fl_X10_41 rfl rfl (by decide) rfl e118 dX10_weighOdds_37 ?_
    refine pm_lmul hC dX10_weighOdds_40 ?_
    refine pm_someL hC (fun y120 b121 => ?_)
    have b121 := And.intro b121.1 b121.2
    refine pm_ladd hC dX10_weighOdds_41 ?_
    refine pm_someL hC (fun y122 b123 => ?_)
    have b123 := And.intro b123.1 b123.2
    refine pm_putf hC 73 fl_X10_53 rfl rfl rfl (by decide) rfl trivial dX10_weighOdds_42 ?_
    refine pm_aload_n hC 2 (by decide) dX10_weighOdds_45 rfl ?_
    refine pm_getf (v := y122) hC 73 fl_X10_53 rfl rfl (by decide) rfl rfl dX10_weighOdds_46 ?_
    refine pm_lconst (x := 0) hC dX10_weighOdds_49 rfl ?_
    refine pm_lcmp hC ⟨by omega, by omega⟩ ⟨by decide, by decide⟩ dX10_weighOdds_50 (fun y124 b125 => ?_)
    refine pm_if_ne (tgt := 59) hC ⟨by omega, by omega⟩ dX10_weighOdds_51 (by decide) (fun c126 => ?_) (fun c126 => ?_)
    · skip
      refine pm_iconst (v := 0) hC dX10_weighOdds_59 ?_
      refine pm_istore (lv' := [(5, (0, 0)), (3, (1, y110)), (1, (1, y103)), (0, (3, 73))]) hC dX10_weighOdds_60 (by decide) rfl ?_
      have hV129 := (hV0.put 73 14 (x := y122) (lo := (-9223372036854775808)) (hi := 9223372036854775807) rfl ⟨by omega, by omega⟩)
      have hF130 := ((pm_fr.rf (ws := [73, 76, 77]) (V := V0)).up 73 14 y122 rfl)
      obtain ⟨V127, hv128⟩ : ∃ V, V = (pm_up V0 73 14 y122) := ⟨_, rfl⟩
      rw [← hv128] at hV129 hF130
      rw [← hv128]
      have e131 : V127 73 7 = y1 := by rw [hv128]; exact e2
      have e132 : V127 73 0 = 51 := by rw [hv128]; exact e4
      have e133 : V127 51 0 = y100 := by rw [hv128]; exact e101
      have e134 : V127 73 11 = y107 := by rw [hv128]; exact e108
      have e135 : V127 73 12 = y112 := by rw [hv128]; exact e113
      have e136 : V127 73 10 = y117 := by rw [hv128]; exact e118
      have e137 : V127 73 14 = y122 := by rw [hv128]; rfl
      have L150 : ∀ (N152 : Nat) (x138 : Int) (V140 : pm_M), (0 ≤ x138 ∧ x138 ≤ 9) → pm_ok 0 90 V140 → pm_fr [73, 76, 77] V0 V140 → V140 73 7 = y1 → V140 73 0 = 51 → V140 51 0 = y100 → V140 73 11 = y107 → V140 73 12 = y112 → V140 73 10 = y117 → V140 73 14 = y122 → (Int.toNat (9 - x138)) = N152 → pm_J X 62 [(0, (3, 73)), (1, (1, y103)), (3, (1, y110)), (5, (0, x138))] [] 118 V140 := by
        intro N152
        induction N152 using Nat.strongRecOn with
        | _ N152 ih153 =>
        intro x138 V140 b139 hV141 hF142 e143 e144 e145 e146 e147 e148 e149 hm151
        refine pm_iload hC 3 dX10_weighOdds_62 rfl ?_
        refine pm_aload_n hC 0 (by decide) dX10_weighOdds_64 rfl ?_
        refine pm_getf (v := 51) hC 73 fl_X10_59 rfl rfl (by decide) rfl e144 dX10_weighOdds_65 ?_
        refine pm_getf (v := y100) hC 51 fl_X10_79 rfl rfl (by decide) rfl e145 dX10_weighOdds_68 ?_
        refine pm_icmp_ge (tgt := 106) hC ⟨by omega, by omega⟩ ⟨by omega, by omega⟩ dX10_weighOdds_71 (by decide) (fun c154 => ?_) (fun c154 => ?_)
        · skip
          exact pm_vret hC hR ⟨rfl, hV141, hF142⟩ dX10_weighOdds_106
        · skip
          refine pm_aload_n hC 0 (by decide) dX10_weighOdds_74 rfl ?_
          rcases hV141.get2 73 13 (lo := 76) (hi := 77) (by decide) (by decide) rfl with e155 | e155
          · skip
            refine pm_getf (v := 76) hC 73 fl_X10_50 rfl rfl (by decide) rfl e155 dX10_weighOdds_75 ?_
            refine pm_iload hC 3 dX10_weighOdds_78 rfl ?_
            refine pm_aload_n hC 0 (by decide) dX10_weighOdds_80 rfl ?_
            have e156 : V140 73 8 = 74 := hV141.one 73 8 (by decide) (by decide) rfl
            refine pm_getf (v := 74) hC 73 fl_X10_34 rfl rfl (by decide) rfl e156 dX10_weighOdds_81 ?_
            refine pm_iload hC 3 dX10_weighOdds_84 rfl ?_
            obtain ⟨y157, e158⟩ : ∃ y, V140 74 (x138 : Int).toNat = y := ⟨_, rfl⟩
            have b159 := hV141.get 74 (x138 : Int).toNat (lo := (-9223372036854775808)) (hi := 9223372036854775807) (by decide) (show _ < 9 by omega) rfl
            rw [e158] at b159
            refine pm_laload (len := 9) (v := y157) hC 74 rfl rfl (by decide) ⟨by omega, by omega⟩ (by decide) e158 dX10_weighOdds_86 ?_
            refine pm_lload_n hC 1 dX10_weighOdds_87 rfl ?_
            refine pm_aload_n hC 0 (by decide) dX10_weighOdds_88 rfl ?_
            have e160 : V140 73 9 = 75 := hV141.one 73 9 (by decide) (by decide) rfl
            refine pm_getf (v := 75) hC 73 fl_X10_38 rfl rfl (by decide) rfl e160 dX10_weighOdds_89 ?_
            refine pm_iload hC 3 dX10_weighOdds_92 rfl ?_
            obtain ⟨y161, e162⟩ : ∃ y, V140 75 (x138 : Int).toNat = y := ⟨_, rfl⟩
            have b163 := hV141.get 75 (x138 : Int).toNat (lo := (-9223372036854775808)) (hi := 9223372036854775807) (by decide) (show _ < 9 by omega) rfl
            rw [e162] at b163
            refine pm_laload (len := 9) (v := y161) hC 75 rfl rfl (by decide) ⟨by omega, by omega⟩ (by decide) e162 dX10_weighOdds_94 ?_
            refine pm_lmul hC dX10_weighOdds_95 ?_
            refine pm_someL hC (fun y164 b165 => ?_)
            have b165 := And.intro b165.1 b165.2
            refine pm_lload_n hC 2 dX10_weighOdds_96 rfl ?_
            refine pm_ladd hC dX10_weighOdds_97 ?_
            refine pm_someL hC (fun y166 b167 => ?_)
            have b167 := And.intro b167.1 b167.2
            refine pm_lmul hC dX10_weighOdds_98 ?_
            refine pm_someL hC (fun y168 b169 => ?_)
            have b169 := And.intro b169.1 b169.2
            refine pm_lastore (len := 9) hC 76 rfl rfl (by decide) ⟨by omega, by omega⟩ (by decide) dX10_weighOdds_99 ?_
            obtain ⟨x170, ei171⟩ : ∃ y : Int, x138 + 1 = y := ⟨_, rfl⟩
            refine pm_iinc (y := x170) (lv' := [(5, (0, x170)), (0, (3, 73)), (1, (1, y103)), (3, (1, y110))]) hC 3 dX10_weighOdds_100 (by decide) rfl ei171 rfl ?_
            refine pm_goto (tgt := 62) hC dX10_weighOdds_103 (by decide) ?_
            refine pm_lvsub [1, 2, 3, 0] (lv' := [(0, (3, 73)), (1, (1, y103)), (3, (1, y110)), (5, (0, x170))]) rfl ?_
            exact ih153 _ (by omega) x170 (pm_up V140 76 (x138 : Int).toNat y168) ⟨by omega, by omega⟩ (hV141.put 76 (x138 : Int).toNat (x := y168) (lo := (-9223372036854775808)) (hi := 9223372036854775807) rfl ⟨by omega, by omega⟩) (hF142.up 76 (x138 : Int).toNat y168 rfl) e143 e144 e145 e146 e147 e148 e149 rfl
          · skip
            refine pm_getf (v := 77) hC 73 fl_X10_50 rfl rfl (by decide) rfl e155 dX10_weighOdds_75 ?_
            refine pm_iload hC 3 dX10_weighOdds_78 rfl ?_
            refine pm_aload_n hC 0 (by decide) dX10_weighOdds_80 rfl ?_
            have e172 : V140 73 8 = 74 := hV141.one 73 8 (by decide) (by decide) rfl
            refine pm_getf (v := 74) hC 73 fl_X10_34 rfl rfl (by decide) rfl e172 dX10_weighOdds_81 ?_
            refine pm_iload hC 3 dX10_weighOdds_84 rfl ?_
            obtain ⟨y173, e174⟩ : ∃ y, V140 74 (x138 : Int).toNat = y := ⟨_, rfl⟩
            have b175 := hV141.get 74 (x138 : Int).toNat (lo := (-9223372036854775808)) (hi := 9223372036854775807) (by decide) (show _ < 9 by omega) rfl
            rw [e174] at b175
            refine pm_laload (len := 9) (v := y173) hC 74 rfl rfl (by decide) ⟨by omega, by omega⟩ (by decide) e174 dX10_weighOdds_86 ?_
            refine pm_lload_n hC 1 dX10_weighOdds_87 rfl ?_
            refine pm_aload_n hC 0 (by decide) dX10_weighOdds_88 rfl ?_
            have e176 : V140 73 9 = 75 := hV141.one 73 9 (by decide) (by decide) rfl
            refine pm_getf (v := 75) hC 73 fl_X10_38 rfl rfl (by decide) rfl e176 dX10_weighOdds_89 ?_
            refine pm_iload hC 3 dX10_weighOdds_92 rfl ?_
            obtain ⟨y177, e178⟩ : ∃ y, V140 75 (x138 : Int).toNat = y := ⟨_, rfl⟩
            have b179 := hV141.get 75 (x138 : Int).toNat (lo := (-9223372036854775808)) (hi := 9223372036854775807) (by decide) (show _ < 9 by omega) rfl
            rw [e178] at b179
            refine pm_laload (len := 9) (v := y177) hC 75 rfl rfl (by decide) ⟨by omega, by omega⟩ (by decide) e178 dX10_weighOdds_94 ?_
            refine pm_lmul hC dX10_weighOdds_95 ?_
            refine pm_someL hC (fun y180 b181 => ?_)
            have b181 := And.intro b181.1 b181.2
            refine pm_lload_n hC 2 dX10_weighOdds_96 rfl ?_
            refine pm_ladd hC dX10_weighOdds_97 ?_
            refine pm_someL hC (fun y182 b183 => ?_)
            have b183 := And.intro b183.1 b183.2
            refine pm_lmul hC dX10_weighOdds_98 ?_
            refine pm_someL hC (fun y184 b185 => ?_)
            have b185 := And.intro b185.1 b185.2
            refine pm_lastore (len := 9) hC 77 rfl rfl (by decide) ⟨by omega, by omega⟩ (by decide) dX10_weighOdds_99 ?_
            obtain ⟨x186, ei187⟩ : ∃ y : Int, x138 + 1 = y := ⟨_, rfl⟩
            refine pm_iinc (y := x186) (lv' := [(5, (0, x186)), (0, (3, 73)), (1, (1, y103)), (3, (1, y110))]) hC 3 dX10_weighOdds_100 (by decide) rfl ei187 rfl ?_
            refine pm_goto (tgt := 62) hC dX10_weighOdds_103 (by decide) ?_
            refine pm_lvsub [1, 2, 3, 0] (lv' := [(0, (3, 73)), (1, (1, y103)), (3, (1, y110)), (5, (0, x186))]) rfl ?_
            exact ih153 _ (by omega) x186 (pm_up V140 77 (x138 : Int).toNat y184) ⟨by omega, by omega⟩ (hV141.put 77 (x138 : Int).toNat (x := y184) (lo := (-9223372036854775808)) (hi := 9223372036854775807) rfl ⟨by omega, by omega⟩) (hF142.up 77 (x138 : Int).toNat y184 rfl) e143 e144 e145 e146 e147 e148 e149 rfl
      refine pm_lvsub [3, 2, 1, 0] (lv' := [(0, (3, 73)), (1, (1, y103)), (3, (1, y110)), (5, (0, 0))]) rfl ?_
      exact L150 _ 0 V127 ⟨by decide, by decide⟩ hV129 hF130 e131 e132 e133 e134 e135 e136 e137 rfl
    · skip
      refine pm_aload_n hC 2 (by decide) dX10_weighOdds_54 rfl ?_
      refine pm_callV (ci := 10) (as := []) (st := []) hC 73 c_X10_weighVoice_73 lm_X10_126 li_X10_weighVoice (by decide) (by decide) rfl rfl rfl (by decide) rfl rfl (Nat.le_of_ble_eq_true rfl) ⟨Nat.le_refl _, Or.inl rfl⟩ dX10_weighOdds_55 ⟨rfl, (hV0.put 73 14 (x := y122) (lo := (-9223372036854775808)) (hi := 9223372036854775807) rfl ⟨by omega, by omega⟩)⟩ (fun r188 V189 hp190 => ?_)
      obtain ⟨rfl, hV191, hF192⟩ := hp190
      change pm_J X 58 [(3, (1, y110)), (1, (1, y103)), (0, (3, 73))] [] 118 V189
      have hF193 := pm_fr.tr ((pm_fr.rf (ws := [73, 76, 77]) (V := V0)).up 73 14 y122 rfl) hF192 (by decide)
      have e194 : V189 51 0 = y100 := by rw [hF192 51 (by decide)]; exact e101
      exact pm_vret hC hR ⟨rfl, hV191, hF193⟩ dX10_weighOdds_58
set_option maxHeartbeats 4000000 in
set_option maxRecDepth 100000 in
theorem c_X5_learntOf_45 (a1 a2 : Int) (h0 : (-2147483648) ≤ a1 ∧ a1 ≤ 2147483647) (h1 : (-2147483648) ≤ a2 ∧ a2 ≤ 2147483647) : pm_K 1 yX5_learntOf cX5_learntOf 4 (some .int) (fun av V => av = [(3, 45), (0, a1), (0, a2)] ∧ pm_ok 0 90 V) (fun _ V r V' => ∃ y, r = some (0, y) ∧ ((-1) ≤ y ∧ y ≤ 8) ∧ V = V') := by
  refine pm_MT.of (by decide) ⟨Nat.le_refl _, by decide⟩ (fun av V h => by rw [h.1]; exact (by decide : pm_words [(3, 0), (0, 0), (0, 0)] ≤ 4)) ?_
  rintro X av V0 hC - hR ⟨rfl, hV0⟩
  change pm_J X 0 [(0, (3, 45)), (1, (0, a1)), (2, (0, a2))] [] 118 V0
  refine pm_iconst (v := 0) hC dX5_learntOf_0 ?_
  refine pm_istore_n (lv' := [(3, (0, 0)), (0, (3, 45)), (1, (0, a1)), (2, (0, a2))]) hC dX5_learntOf_1 (by decide) rfl ?_
  have L3 : ∀ (N5 : Nat) (x1 : Int), (0 ≤ x1 ∧ x1 ≤ 16) → (Int.toNat (16 - x1)) = N5 → pm_J X 2 [(0, (3, 45)), (1, (0, a1)), (2, (0, a2)), (3, (0, x1))] [] 118 V0 := by
    intro N5
    induction N5 using Nat.strongRecOn with
    | _ N5 ih6 =>
    intro x1 b2 hm4
    refine pm_iload_n hC 3 dX5_learntOf_2 rfl ?_
    refine pm_aload_n hC 0 (by decide) dX5_learntOf_3 rfl ?_
    obtain ⟨y7, e8⟩ : ∃ y, V0 45 10 = y := ⟨_, rfl⟩
    have b9 := hV0.get 45 10 (lo := 0) (hi := 12) (by decide) (by decide) rfl
    rw [e8] at b9
    refine pm_getf (v := y7) hC 45 fl_X5_49 rfl rfl (by decide) rfl e8 dX5_learntOf_4 ?_
    refine pm_icmp_ge (tgt := 38) hC ⟨by omega, by omega⟩ ⟨by omega, by omega⟩ dX5_learntOf_7 (by decide) (fun c10 => ?_) (fun c10 => ?_)
    · skip
      refine pm_iconst (v := (-1)) hC dX5_learntOf_38 ?_
      exact pm_iret hC hR pm_nar0 ⟨(-1), rfl, ⟨by omega, by omega⟩, rfl⟩ dX5_learntOf_39
    · skip
      refine pm_aload_n hC 0 (by decide) dX5_learntOf_10 rfl ?_
      have e11 : V0 45 11 = 49 := hV0.one 45 11 (by decide) (by decide) rfl
      refine pm_getf (v := 49) hC 45 fl_X5_21 rfl rfl (by decide) rfl e11 dX5_learntOf_11 ?_
      refine pm_iload_n hC 3 dX5_learntOf_14 rfl ?_
      obtain ⟨y12, e13⟩ : ∃ y, V0 49 (x1 : Int).toNat = y := ⟨_, rfl⟩
      have b14 := hV0.get 49 (x1 : Int).toNat (lo := 0) (hi := 99) (by decide) (show _ < 12 by omega) rfl
      rw [e13] at b14
      refine pm_iaload (len := 12) (v := y12) hC 49 rfl rfl (by decide) ⟨by omega, by omega⟩ (by decide) e13 dX5_learntOf_15 ?_
      refine pm_iload_n hC 1 dX5_learntOf_16 rfl ?_
      refine pm_bipush (v := 10) hC dX5_learntOf_17 (by decide) ?_
      refine pm_imul hC dX5_learntOf_19 ?_
      refine pm_some hC (fun y15 b16 => ?_)
      have b16 := And.intro b16.1 b16.2
      refine pm_iload_n hC 2 dX5_learntOf_20 rfl ?_
      refine pm_iadd hC dX5_learntOf_21 ?_
      refine pm_some hC (fun y17 b18 => ?_)
      have b18 := And.intro b18.1 b18.2
      refine pm_icmp_ne (tgt := 32) hC ⟨by omega, by omega⟩ ⟨by omega, by omega⟩ dX5_learntOf_22 (by decide) (fun c19 => ?_) (fun c19 => ?_)
      · skip
        obtain ⟨x20, ei21⟩ : ∃ y : Int, x1 + 1 = y := ⟨_, rfl⟩
        refine pm_iinc (y := x20) (lv' := [(3, (0, x20)), (0, (3, 45)), (1, (0, a1)), (2, (0, a2))]) hC 3 dX5_learntOf_32 (by decide) rfl ei21 rfl ?_
        refine pm_goto (tgt := 2) hC dX5_learntOf_35 (by decide) ?_
        refine pm_lvsub [1, 2, 3, 0] (lv' := [(0, (3, 45)), (1, (0, a1)), (2, (0, a2)), (3, (0, x20))]) rfl ?_
        exact ih6 _ (by omega) x20 ⟨by omega, by omega⟩ rfl
      · skip
        refine pm_aload_n hC 0 (by decide) dX5_learntOf_25 rfl ?_
        have e22 : V0 45 12 = 50 := hV0.one 45 12 (by decide) (by decide) rfl
        refine pm_getf (v := 50) hC 45 fl_X5_24 rfl rfl (by decide) rfl e22 dX5_learntOf_26 ?_
        refine pm_iload_n hC 3 dX5_learntOf_29 rfl ?_
        obtain ⟨y23, e24⟩ : ∃ y, V0 50 (x1 : Int).toNat = y := ⟨_, rfl⟩
        have b25 := hV0.get 50 (x1 : Int).toNat (lo := 0) (hi := 8) (by decide) (show _ < 12 by omega) rfl
        rw [e24] at b25
        refine pm_iaload (len := 12) (v := y23) hC 50 rfl rfl (by decide) ⟨by omega, by omega⟩ (by decide) e24 dX5_learntOf_30 ?_
        exact pm_iret hC hR pm_nar0 ⟨y23, rfl, ⟨by omega, by omega⟩, rfl⟩ dX5_learntOf_31
  refine pm_lvsub [1, 2, 3, 0] (lv' := [(0, (3, 45)), (1, (0, a1)), (2, (0, a2)), (3, (0, 0))]) rfl ?_
  exact L3 _ 0 ⟨by decide, by decide⟩ rfl
set_option maxHeartbeats 4000000 in
set_option maxRecDepth 100000 in
theorem c_X10_weighSingle_73 (a1 : Int) (h0 : (-2147483648) ≤ a1 ∧ a1 ≤ 2147483647) : pm_K 1 yX10_weighSingle cX10_weighSingle 3 none (fun av V => av = [(3, 73), (0, a1)] ∧ pm_ok 0 90 V) (fun _ V r V' => r = none ∧ pm_ok 0 90 V' ∧ pm_fr [73, 76, 77] V V') := by
  refine pm_MT.of (by decide) ⟨Nat.le_refl _, by decide⟩ (fun av V h => by rw [h.1]; exact (by decide : pm_words [(3, 0), (0, 0)] ≤ 3)) ?_
  rintro X av V0 hC - hR ⟨rfl, hV0⟩
  change pm_J X 0 [(0, (3, 73)), (1, (0, a1))] [] 118 V0
  refine pm_iconst (v := 0) hC dX10_weighSingle_0 ?_
  refine pm_istore_n (lv' := [(2, (0, 0)), (0, (3, 73)), (1, (0, a1))]) hC dX10_weighSingle_1 (by decide) rfl ?_
  have L6 : ∀ (N8 : Nat) (x1 : Int) (V3 : pm_M), (0 ≤ x1 ∧ x1 ≤ 9) → pm_ok 0 90 V3 → pm_fr [73, 76, 77] V0 V3 → (Int.toNat (9 - x1)) = N8 → pm_J X 2 [(0, (3, 73)), (1, (0, a1)), (2, (0, x1))] [] 118 V3 := by
    intro N8
    induction N8 using Nat.strongRecOn with
    | _ N8 ih9 =>
    intro x1 V3 b2 hV4 hF5 hm7
    refine pm_iload_n hC 2 dX10_weighSingle_2 rfl ?_
    refine pm_aload_n hC 0 (by decide) dX10_weighSingle_3 rfl ?_
    rcases hV4.get2 73 0 (lo := 45) (hi := 51) (by decide) (by decide) rfl with e10 | e10
    · skip
      refine pm_getf (v := 45) hC 73 fl_X10_59 rfl rfl (by decide) rfl e10 dX10_weighSingle_4 ?_
      obtain ⟨y11, e12⟩ : ∃ y, V3 45 0 = y := ⟨_, rfl⟩
      have b13 := hV4.get 45 0 (lo := 0) (hi := 9) (by decide) (by decide) rfl
      rw [e12] at b13
      refine pm_getf (v := y11) hC 45 fl_X10_79 rfl rfl (by decide) rfl e12 dX10_weighSingle_7 ?_
      refine pm_icmp_ge (tgt := 35) hC ⟨by omega, by omega⟩ ⟨by omega, by omega⟩ dX10_weighSingle_10 (by decide) (fun c14 => ?_) (fun c14 => ?_)
      · skip
        refine pm_aload_n hC 0 (by decide) dX10_weighSingle_35 rfl ?_
        refine pm_lconst (x := 1) hC dX10_weighSingle_36 rfl ?_
        refine pm_putf hC 73 fl_X10_53 rfl rfl rfl (by decide) rfl trivial dX10_weighSingle_37 ?_
        exact pm_vret hC hR ⟨rfl, (hV4.put 73 14 (x := 1) (lo := (-9223372036854775808)) (hi := 9223372036854775807) rfl ⟨by decide, by decide⟩), (hF5.up 73 14 1 rfl)⟩ dX10_weighSingle_40
      · skip
        refine pm_aload_n hC 0 (by decide) dX10_weighSingle_13 rfl ?_
        rcases hV4.get2 73 13 (lo := 76) (hi := 77) (by decide) (by decide) rfl with e15 | e15
        · skip
          refine pm_getf (v := 76) hC 73 fl_X10_50 rfl rfl (by decide) rfl e15 dX10_weighSingle_14 ?_
          refine pm_iload_n hC 2 dX10_weighSingle_17 rfl ?_
          refine pm_iload_n hC 2 dX10_weighSingle_18 rfl ?_
          refine pm_iload_n hC 1 dX10_weighSingle_19 rfl ?_
          refine pm_icmp_ne (tgt := 27) hC ⟨by omega, by omega⟩ ⟨by omega, by omega⟩ dX10_weighSingle_20 (by decide) (fun c16 => ?_) (fun c16 => ?_)
          · skip
            refine pm_lconst (x := 0) hC dX10_weighSingle_27 rfl ?_
            refine pm_lastore (len := 9) hC 76 rfl rfl (by decide) ⟨by omega, by omega⟩ (by decide) dX10_weighSingle_28 ?_
            obtain ⟨x17, ei18⟩ : ∃ y : Int, x1 + 1 = y := ⟨_, rfl⟩
            refine pm_iinc (y := x17) (lv' := [(2, (0, x17)), (0, (3, 73)), (1, (0, a1))]) hC 2 dX10_weighSingle_29 (by decide) rfl ei18 rfl ?_
            refine pm_goto (tgt := 2) hC dX10_weighSingle_32 (by decide) ?_
            refine pm_lvsub [1, 2, 0] (lv' := [(0, (3, 73)), (1, (0, a1)), (2, (0, x17))]) rfl ?_
            exact ih9 _ (by omega) x17 (pm_up V3 76 (x1 : Int).toNat 0) ⟨by omega, by omega⟩ (hV4.put 76 (x1 : Int).toNat (x := 0) (lo := (-9223372036854775808)) (hi := 9223372036854775807) rfl ⟨by decide, by decide⟩) (hF5.up 76 (x1 : Int).toNat 0 rfl) rfl
          · skip
            refine pm_lconst (x := 1) hC dX10_weighSingle_23 rfl ?_
            refine pm_goto (tgt := 28) hC dX10_weighSingle_24 (by decide) ?_
            refine pm_lastore (len := 9) hC 76 rfl rfl (by decide) ⟨by omega, by omega⟩ (by decide) dX10_weighSingle_28 ?_
            obtain ⟨x19, ei20⟩ : ∃ y : Int, x1 + 1 = y := ⟨_, rfl⟩
            refine pm_iinc (y := x19) (lv' := [(2, (0, x19)), (0, (3, 73)), (1, (0, a1))]) hC 2 dX10_weighSingle_29 (by decide) rfl ei20 rfl ?_
            refine pm_goto (tgt := 2) hC dX10_weighSingle_32 (by decide) ?_
            refine pm_lvsub [1, 2, 0] (lv' := [(0, (3, 73)), (1, (0, a1)), (2, (0, x19))]) rfl ?_
            exact ih9 _ (by omega) x19 (pm_up V3 76 (x1 : Int).toNat 1) ⟨by omega, by omega⟩ (hV4.put 76 (x1 : Int).toNat (x := 1) (lo := (-9223372036854775808)) (hi := 9223372036854775807) rfl ⟨by decide, by decide⟩) (hF5.up 76 (x1 : Int).toNat 1 rfl) rfl
        · skip
          refine pm_getf (v := 77) hC 73 fl_X10_50 rfl rfl (by decide) rfl e15 dX10_weighSingle_14 ?_
          refine pm_iload_n hC 2 dX10_weighSingle_17 rfl ?_
          refine pm_iload_n hC 2 dX10_weighSingle_18 rfl ?_
          refine pm_iload_n hC 1 dX10_weighSingle_19 rfl ?_
          refine pm_icmp_ne (tgt := 27) hC ⟨by omega, by omega⟩ ⟨by omega, by omega⟩ dX10_weighSingle_20 (by decide) (fun c21 => ?_) (fun c21 => ?_)
          · skip
            refine pm_lconst (x := 0) hC dX10_weighSingle_27 rfl ?_
            refine pm_lastore (len := 9) hC 77 rfl rfl (by decide) ⟨by omega, by omega⟩ (by decide) dX10_weighSingle_28 ?_
            obtain ⟨x22, ei23⟩ : ∃ y : Int, x1 + 1 = y := ⟨_, rfl⟩
            refine pm_iinc (y := x22) (lv' := [(2, (0, x22)), (0, (3, 73)), (1, (0, a1))]) hC 2 dX10_weighSingle_29 (by decide) rfl ei23 rfl ?_
            refine pm_goto (tgt := 2) hC dX10_weighSingle_32 (by decide) ?_
            refine pm_lvsub [1, 2, 0] (lv' := [(0, (3, 73)), (1, (0, a1)), (2, (0, x22))]) rfl ?_
            exact ih9 _ (by omega) x22 (pm_up V3 77 (x1 : Int).toNat 0) ⟨by omega, by omega⟩ (hV4.put 77 (x1 : Int).toNat (x := 0) (lo := (-9223372036854775808)) (hi := 9223372036854775807) rfl ⟨by decide, by decide⟩) (hF5.up 77 (x1 : Int).toNat 0 rfl) rfl
          · skip
            refine pm_lconst (x := 1) hC dX10_weighSingle_23 rfl ?_
            refine pm_goto (tgt := 28) hC dX10_weighSingle_24 (by decide) ?_
            refine pm_lastore (len := 9) hC 77 rfl rfl (by decide) ⟨by omega, by omega⟩ (by decide) dX10_weighSingle_28 ?_
            obtain ⟨x24, ei25⟩ : ∃ y : Int, x1 + 1 = y := ⟨_, rfl⟩
            refine pm_iinc (y := x24) (lv' := [(2, (0, x24)), (0, (3, 73)), (1, (0, a1))]) hC 2 dX10_weighSingle_29 (by decide) rfl ei25 rfl ?_
            refine pm_goto (tgt := 2) hC dX10_weighSingle_32 (by decide) ?_
            refine pm_lvsub [1, 2, 0] (lv' := [(0, (3, 73)), (1, (0, a1)), (2, (0, x24))]) rfl ?_
            exact ih9 _ (by omega) x24 (pm_up V3 77 (x1 : Int).toNat 1) ⟨by omega, by omega⟩ (hV4.put 77 (x1 : Int).toNat (x := 1) (lo := (-9223372036854775808)) (hi := 9223372036854775807) rfl ⟨by decide, by decide⟩) (hF5.up 77 (x1 : Int).toNat 1 rfl) rfl
    · skip
      refine pm_getf (v := 51) hC 73 fl_X10_59 rfl rfl (by decide) rfl e10 dX10_weighSingle_4 ?_
      obtain ⟨y26, e27⟩ : ∃ y, V3 51 0 = y := ⟨_, rfl⟩
      have b28 := hV4.get 51 0 (lo := 0) (hi := 9) (by decide) (by decide) rfl
      rw [e27] at b28
      refine pm_getf (v := y26) hC 51 fl_X10_79 rfl rfl (by decide) rfl e27 dX10_weighSingle_7 ?_
      refine pm_icmp_ge (tgt := 35) hC ⟨by omega, by omega⟩ ⟨by omega, by omega⟩ dX10_weighSingle_10 (by decide) (fun c29 => ?_) (fun c29 => ?_)
      · skip
        refine pm_aload_n hC 0 (by decide) dX10_weighSingle_35 rfl ?_
        refine pm_lconst (x := 1) hC dX10_weighSingle_36 rfl ?_
        refine pm_putf hC 73 fl_X10_53 rfl rfl rfl (by decide) rfl trivial dX10_weighSingle_37 ?_
        exact pm_vret hC hR ⟨rfl, (hV4.put 73 14 (x := 1) (lo := (-9223372036854775808)) (hi := 9223372036854775807) rfl ⟨by decide, by decide⟩), (hF5.up 73 14 1 rfl)⟩ dX10_weighSingle_40
      · skip
        refine pm_aload_n hC 0 (by decide) dX10_weighSingle_13 rfl ?_
        rcases hV4.get2 73 13 (lo := 76) (hi := 77) (by decide) (by decide) rfl with e30 | e30
        · skip
          refine pm_getf (v := 76) hC 73 fl_X10_50 rfl rfl (by decide) rfl e30 dX10_weighSingle_14 ?_
          refine pm_iload_n hC 2 dX10_weighSingle_17 rfl ?_
          refine pm_iload_n hC 2 dX10_weighSingle_18 rfl ?_
          refine pm_iload_n hC 1 dX10_weighSingle_19 rfl ?_
          refine pm_icmp_ne (tgt := 27) hC ⟨by omega, by omega⟩ ⟨by omega, by omega⟩ dX10_weighSingle_20 (by decide) (fun c31 => ?_) (fun c31 => ?_)
          · skip
            refine pm_lconst (x := 0) hC dX10_weighSingle_27 rfl ?_
            refine pm_lastore (len := 9) hC 76 rfl rfl (by decide) ⟨by omega, by omega⟩ (by decide) dX10_weighSingle_28 ?_
            obtain ⟨x32, ei33⟩ : ∃ y : Int, x1 + 1 = y := ⟨_, rfl⟩
            refine pm_iinc (y := x32) (lv' := [(2, (0, x32)), (0, (3, 73)), (1, (0, a1))]) hC 2 dX10_weighSingle_29 (by decide) rfl ei33 rfl ?_
            refine pm_goto (tgt := 2) hC dX10_weighSingle_32 (by decide) ?_
            refine pm_lvsub [1, 2, 0] (lv' := [(0, (3, 73)), (1, (0, a1)), (2, (0, x32))]) rfl ?_
            exact ih9 _ (by omega) x32 (pm_up V3 76 (x1 : Int).toNat 0) ⟨by omega, by omega⟩ (hV4.put 76 (x1 : Int).toNat (x := 0) (lo := (-9223372036854775808)) (hi := 9223372036854775807) rfl ⟨by decide, by decide⟩) (hF5.up 76 (x1 : Int).toNat 0 rfl) rfl
          · skip
            refine pm_lconst (x := 1) hC dX10_weighSingle_23 rfl ?_
            refine pm_goto (tgt := 28) hC dX10_weighSingle_24 (by decide) ?_
            refine pm_lastore (len := 9) hC 76 rfl rfl (by decide) ⟨by omega, by omega⟩ (by decide) dX10_weighSingle_28 ?_
            obtain ⟨x34, ei35⟩ : ∃ y : Int, x1 + 1 = y := ⟨_, rfl⟩
            refine pm_iinc (y := x34) (lv' := [(2, (0, x34)), (0, (3, 73)), (1, (0, a1))]) hC 2 dX10_weighSingle_29 (by decide) rfl ei35 rfl ?_
            refine pm_goto (tgt := 2) hC dX10_weighSingle_32 (by decide) ?_
            refine pm_lvsub [1, 2, 0] (lv' := [(0, (3, 73)), (1, (0, a1)), (2, (0, x34))]) rfl ?_
            exact ih9 _ (by omega) x34 (pm_up V3 76 (x1 : Int).toNat 1) ⟨by omega, by omega⟩ (hV4.put 76 (x1 : Int).toNat (x := 1) (lo := (-9223372036854775808)) (hi := 9223372036854775807) rfl ⟨by decide, by decide⟩) (hF5.up 76 (x1 : Int).toNat 1 rfl) rfl
        · skip
          refine pm_getf (v := 77) hC 73 fl_X10_50 rfl rfl (by decide) rfl e30 dX10_weighSingle_14 ?_
          refine pm_iload_n hC 2 dX10_weighSingle_17 rfl ?_
          refine pm_iload_n hC 2 dX10_weighSingle_18 rfl ?_
          refine pm_iload_n hC 1 dX10_weighSingle_19 rfl ?_
          refine pm_icmp_ne (tgt := 27) hC ⟨by omega, by omega⟩ ⟨by omega, by omega⟩ dX10_weighSingle_20 (by decide) (fun c36 => ?_) (fun c36 => ?_)
          · skip
            refine pm_lconst (x := 0) hC dX10_weighSingle_27 rfl ?_
            refine pm_lastore (len := 9) hC 77 rfl rfl (by decide) ⟨by omega, by omega⟩ (by decide) dX10_weighSingle_28 ?_
            obtain ⟨x37, ei38⟩ : ∃ y : Int, x1 + 1 = y := ⟨_, rfl⟩
            refine pm_iinc (y := x37) (lv' := [(2, (0, x37)), (0, (3, 73)), (1, (0, a1))]) hC 2 dX10_weighSingle_29 (by decide) rfl ei38 rfl ?_
            refine pm_goto (tgt := 2) hC dX10_weighSingle_32 (by decide) ?_
            refine pm_lvsub [1, 2, 0] (lv' := [(0, (3, 73)), (1, (0, a1)), (2, (0, x37))]) rfl ?_
            exact ih9 _ (by omega) x37 (pm_up V3 77 (x1 : Int).toNat 0) ⟨by omega, by omega⟩ (hV4.put 77 (x1 : Int).toNat (x := 0) (lo := (-9223372036854775808)) (hi := 9223372036854775807) rfl ⟨by decide, by decide⟩) (hF5.up 77 (x1 : Int).toNat 0 rfl) rfl
          · skip
            refine pm_lconst (x := 1) hC dX10_weighSingle_23 rfl ?_
            refine pm_goto (tgt := 28) hC dX10_weighSingle_24 (by decide) ?_
            refine pm_lastore (len := 9) hC 77 rfl rfl (by decide) ⟨by omega, by omega⟩ (by decide) dX10_weighSingle_28 ?_
            obtain ⟨x39, ei40⟩ : ∃ y : Int, x1 + 1 = y := ⟨_, rfl⟩
            refine pm_iinc (y := x39) (lv' := [(2, (0, x39)), (0, (3, 73)), (1, (0, a1))]) hC 2 dX10_weighSingle_29 (by decide) rfl ei40 rfl ?_
            refine pm_goto (tgt := 2) hC dX10_weighSingle_32 (by decide) ?_
            refine pm_lvsub [1, 2, 0] (lv' := [(0, (3, 73)), (1, (0, a1)), (2, (0, x39))]) rfl ?_
            exact ih9 _ (by omega) x39 (pm_up V3 77 (x1 : Int).toNat 1) ⟨by omega, by omega⟩ (hV4.put 77 (x1 : Int).toNat (x := 1) (lo := (-9223372036854775808)) (hi := 9223372036854775807) rfl ⟨by decide, by decide⟩) (hF5.up 77 (x1 : Int).toNat 1 rfl) rfl
  refine pm_lvsub [1, 2, 0] (lv' := [(0, (3, 73)), (1, (0, a1)), (2, (0, 0))]) rfl ?_
  exact L6 _ 0 V0 ⟨by decide, by decide⟩ hV0 (pm_fr.rf (ws := [73, 76, 77]) (V := V0)) rfl
set_option maxHeartbeats 4000000 in
set_option maxRecDepth 100000 in
theorem c_X5_learntOf_51 (a1 a2 : Int) (h0 : (-2147483648) ≤ a1 ∧ a1 ≤ 2147483647) (h1 : (-2147483648) ≤ a2 ∧ a2 ≤ 2147483647) : pm_K 1 yX5_learntOf cX5_learntOf 4 (some .int) (fun av V => av = [(3, 51), (0, a1), (0, a2)] ∧ pm_ok 0 90 V) (fun _ V r V' => ∃ y, r = some (0, y) ∧ ((-1) ≤ y ∧ y ≤ 8) ∧ V = V') := by
  refine pm_MT.of (by decide) ⟨Nat.le_refl _, by decide⟩ (fun av V h => by rw [h.1]; exact (by decide : pm_words [(3, 0), (0, 0), (0, 0)] ≤ 4)) ?_
  rintro X av V0 hC - hR ⟨rfl, hV0⟩
  change pm_J X 0 [(0, (3, 51)), (1, (0, a1)), (2, (0, a2))] [] 118 V0
  refine pm_iconst (v := 0) hC dX5_learntOf_0 ?_
  refine pm_istore_n (lv' := [(3, (0, 0)), (0, (3, 51)), (1, (0, a1)), (2, (0, a2))]) hC dX5_learntOf_1 (by decide) rfl ?_
  have L3 : ∀ (N5 : Nat) (x1 : Int), (0 ≤ x1 ∧ x1 ≤ 16) → (Int.toNat (16 - x1)) = N5 → pm_J X 2 [(0, (3, 51)), (1, (0, a1)), (2, (0, a2)), (3, (0, x1))] [] 118 V0 := by
    intro N5
    induction N5 using Nat.strongRecOn with
    | _ N5 ih6 =>
    intro x1 b2 hm4
    refine pm_iload_n hC 3 dX5_learntOf_2 rfl ?_
    refine pm_aload_n hC 0 (by decide) dX5_learntOf_3 rfl ?_
    obtain ⟨y7, e8⟩ : ∃ y, V0 51 10 = y := ⟨_, rfl⟩
    have b9 := hV0.get 51 10 (lo := 0) (hi := 12) (by decide) (by decide) rfl
    rw [e8] at b9
    refine pm_getf (v := y7) hC 51 fl_X5_49 rfl rfl (by decide) rfl e8 dX5_learntOf_4 ?_
    refine pm_icmp_ge (tgt := 38) hC ⟨by omega, by omega⟩ ⟨by omega, by omega⟩ dX5_learntOf_7 (by decide) (fun c10 => ?_) (fun c10 => ?_)
    · skip
      refine pm_iconst (v := (-1)) hC dX5_learntOf_38 ?_
      exact pm_iret hC hR pm_nar0 ⟨(-1), rfl, ⟨by omega, by omega⟩, rfl⟩ dX5_learntOf_39
    · skip
      refine pm_aload_n hC 0 (by decide) dX5_learntOf_10 rfl ?_
      have e11 : V0 51 11 = 55 := hV0.one 51 11 (by decide) (by decide) rfl
      refine pm_getf (v := 55) hC 51 fl_X5_21 rfl rfl (by decide) rfl e11 dX5_learntOf_11 ?_
      refine pm_iload_n hC 3 dX5_learntOf_14 rfl ?_
      obtain ⟨y12, e13⟩ : ∃ y, V0 55 (x1 : Int).toNat = y := ⟨_, rfl⟩
      have b14 := hV0.get 55 (x1 : Int).toNat (lo := 0) (hi := 99) (by decide) (show _ < 12 by omega) rfl
      rw [e13] at b14
      refine pm_iaload (len := 12) (v := y12) hC 55 rfl rfl (by decide) ⟨by omega, by omega⟩ (by decide) e13 dX5_learntOf_15 ?_
      refine pm_iload_n hC 1 dX5_learntOf_16 rfl ?_
      refine pm_bipush (v := 10) hC dX5_learntOf_17 (by decide) ?_
      refine pm_imul hC dX5_learntOf_19 ?_
      refine pm_some hC (fun y15 b16 => ?_)
      have b16 := And.intro b16.1 b16.2
      refine pm_iload_n hC 2 dX5_learntOf_20 rfl ?_
      refine pm_iadd hC dX5_learntOf_21 ?_
      refine pm_some hC (fun y17 b18 => ?_)
      have b18 := And.intro b18.1 b18.2
      refine pm_icmp_ne (tgt := 32) hC ⟨by omega, by omega⟩ ⟨by omega, by omega⟩ dX5_learntOf_22 (by decide) (fun c19 => ?_) (fun c19 => ?_)
      · skip
        obtain ⟨x20, ei21⟩ : ∃ y : Int, x1 + 1 = y := ⟨_, rfl⟩
        refine pm_iinc (y := x20) (lv' := [(3, (0, x20)), (0, (3, 51)), (1, (0, a1)), (2, (0, a2))]) hC 3 dX5_learntOf_32 (by decide) rfl ei21 rfl ?_
        refine pm_goto (tgt := 2) hC dX5_learntOf_35 (by decide) ?_
        refine pm_lvsub [1, 2, 3, 0] (lv' := [(0, (3, 51)), (1, (0, a1)), (2, (0, a2)), (3, (0, x20))]) rfl ?_
        exact ih6 _ (by omega) x20 ⟨by omega, by omega⟩ rfl
      · skip
        refine pm_aload_n hC 0 (by decide) dX5_learntOf_25 rfl ?_
        have e22 : V0 51 12 = 56 := hV0.one 51 12 (by decide) (by decide) rfl
        refine pm_getf (v := 56) hC 51 fl_X5_24 rfl rfl (by decide) rfl e22 dX5_learntOf_26 ?_
        refine pm_iload_n hC 3 dX5_learntOf_29 rfl ?_
        obtain ⟨y23, e24⟩ : ∃ y, V0 56 (x1 : Int).toNat = y := ⟨_, rfl⟩
        have b25 := hV0.get 56 (x1 : Int).toNat (lo := 0) (hi := 8) (by decide) (show _ < 12 by omega) rfl
        rw [e24] at b25
        refine pm_iaload (len := 12) (v := y23) hC 56 rfl rfl (by decide) ⟨by omega, by omega⟩ (by decide) e24 dX5_learntOf_30 ?_
        exact pm_iret hC hR pm_nar0 ⟨y23, rfl, ⟨by omega, by omega⟩, rfl⟩ dX5_learntOf_31
  refine pm_lvsub [1, 2, 3, 0] (lv' := [(0, (3, 51)), (1, (0, a1)), (2, (0, a2)), (3, (0, 0))]) rfl ?_
  exact L3 _ 0 ⟨by decide, by decide⟩ rfl
set_option maxHeartbeats 4000000 in
set_option maxRecDepth 100000 in
theorem c_X10_weighLearnt_73  : pm_K 3 yX10_weighLearnt cX10_weighLearnt 2 none (fun av V => av = [(3, 73)] ∧ pm_ok 0 90 V) (fun _ V r V' => r = none ∧ pm_ok 0 90 V' ∧ pm_fr [73, 76, 77] V V') := by
  refine pm_MT.of (by decide) ⟨Nat.le_refl _, by decide⟩ (fun av V h => by rw [h.1]; exact (by decide : pm_words [(3, 0)] ≤ 2)) ?_
  rintro X av V0 hC - hR ⟨rfl, hV0⟩
  change pm_J X 0 [(0, (3, 73))] [] 118 V0
  refine pm_aload_n hC 0 (by decide) dX10_weighLearnt_0 rfl ?_
  rcases hV0.get2 73 0 (lo := 45) (hi := 51) (by decide) (by decide) rfl with e1 | e1
  · skip
    refine pm_getf (v := 45) hC 73 fl_X10_59 rfl rfl (by decide) rfl e1 dX10_weighLearnt_1 ?_
    refine pm_aload_n hC 0 (by decide) dX10_weighLearnt_4 rfl ?_
    obtain ⟨y2, e3⟩ : ∃ y, V0 73 1 = y := ⟨_, rfl⟩
    have b4 := hV0.get 73 1 (lo := 0) (hi := 8) (by decide) (by decide) rfl
    rw [e3] at b4
    refine pm_getf (v := y2) hC 73 fl_X10_9 rfl rfl (by decide) rfl e3 dX10_weighLearnt_5 ?_
    refine pm_aload_n hC 0 (by decide) dX10_weighLearnt_8 rfl ?_
    obtain ⟨y5, e6⟩ : ∃ y, V0 73 2 = y := ⟨_, rfl⟩
    have b7 := hV0.get 73 2 (lo := 0) (hi := 8) (by decide) (by decide) rfl
    rw [e6] at b7
    refine pm_getf (v := y5) hC 73 fl_X10_15 rfl rfl (by decide) rfl e6 dX10_weighLearnt_9 ?_
    refine pm_callV (ci := 5) (as := [(0, y2), (0, y5)]) (st := []) hC 45 (c_X5_learntOf_45 y2 y5 ⟨by omega, by omega⟩ ⟨by omega, by omega⟩) lm_X10_135 li_X5_learntOf (by decide) (by decide) rfl rfl rfl (by decide) rfl rfl (Nat.le_of_ble_eq_true rfl) ⟨Nat.le_refl _, Or.inl rfl⟩ dX10_weighLearnt_12 ⟨rfl, hV0⟩ (fun r8 V9 hp10 => ?_)
    obtain ⟨y11, rfl, b12, rfl⟩ := hp10
    change pm_J X 15 [(0, (3, 73))] [(0, y11)] 118 V0
    refine pm_istore_n (lv' := [(1, (0, y11)), (0, (3, 73))]) hC dX10_weighLearnt_15 (by decide) rfl ?_
    refine pm_iload_n hC 0 dX10_weighLearnt_16 rfl ?_
    refine pm_iconst (v := (-1)) hC dX10_weighLearnt_17 ?_
    refine pm_icmp_ne (tgt := 28) hC ⟨by omega, by omega⟩ ⟨by decide, by decide⟩ dX10_weighLearnt_18 (by decide) (fun c13 => ?_) (fun c13 => ?_)
    · skip
      refine pm_aload_n hC 1 (by decide) dX10_weighLearnt_28 rfl ?_
      refine pm_iload_n hC 0 dX10_weighLearnt_29 rfl ?_
      refine pm_callV (ci := 10) (as := [(0, y11)]) (st := []) hC 73 (c_X10_weighSingle_73 y11 ⟨by omega, by omega⟩) lm_X10_122 li_X10_weighSingle (by decide) (by decide) rfl rfl rfl (by decide) rfl rfl (Nat.le_of_ble_eq_true rfl) ⟨Nat.le_refl _, Or.inl rfl⟩ dX10_weighLearnt_30 ⟨rfl, hV0⟩ (fun r14 V15 hp16 => ?_)
      obtain ⟨rfl, hV17, hF18⟩ := hp16
      change pm_J X 33 [(1, (0, y11)), (0, (3, 73))] [] 118 V15
      have hF19 := pm_fr.tr (pm_fr.rf (ws := [73, 76, 77]) (V := V0)) hF18 (by decide)
      exact pm_vret hC hR ⟨rfl, hV17, hF19⟩ dX10_weighLearnt_33
    · skip
      refine pm_aload_n hC 1 (by decide) dX10_weighLearnt_21 rfl ?_
      refine pm_callV (ci := 10) (as := []) (st := []) hC 73 c_X10_weighOdds_73 lm_X10_112 li_X10_weighOdds (by decide) (by decide) rfl rfl rfl (by decide) rfl rfl (Nat.le_of_ble_eq_true rfl) ⟨Nat.le_refl _, Or.inl rfl⟩ dX10_weighLearnt_22 ⟨rfl, hV0⟩ (fun r20 V21 hp22 => ?_)
      obtain ⟨rfl, hV23, hF24⟩ := hp22
      change pm_J X 25 [(1, (0, y11)), (0, (3, 73))] [] 118 V21
      have hF25 := pm_fr.tr (pm_fr.rf (ws := [73, 76, 77]) (V := V0)) hF24 (by decide)
      refine pm_goto (tgt := 33) hC dX10_weighLearnt_25 (by decide) ?_
      exact pm_vret hC hR ⟨rfl, hV23, hF25⟩ dX10_weighLearnt_33
  · skip
    refine pm_getf (v := 51) hC 73 fl_X10_59 rfl rfl (by decide) rfl e1 dX10_weighLearnt_1 ?_
    refine pm_aload_n hC 0 (by decide) dX10_weighLearnt_4 rfl ?_
    obtain ⟨y26, e27⟩ : ∃ y, V0 73 1 = y := ⟨_, rfl⟩
    have b28 := hV0.get 73 1 (lo := 0) (hi := 8) (by decide) (by decide) rfl
    rw [e27] at b28
    refine pm_getf (v := y26) hC 73 fl_X10_9 rfl rfl (by decide) rfl e27 dX10_weighLearnt_5 ?_
    refine pm_aload_n hC 0 (by decide) dX10_weighLearnt_8 rfl ?_
    obtain ⟨y29, e30⟩ : ∃ y, V0 73 2 = y := ⟨_, rfl⟩
    have b31 := hV0.get 73 2 (lo := 0) (hi := 8) (by decide) (by decide) rfl
    rw [e30] at b31
    refine pm_getf (v := y29) hC 73 fl_X10_15 rfl rfl (by decide) rfl e30 dX10_weighLearnt_9 ?_
    refine pm_callV (ci := 5) (as := [(0, y26), (0, y29)]) (st := []) hC 51 (c_X5_learntOf_51 y26 y29 ⟨by omega, by omega⟩ ⟨by omega, by omega⟩) lm_X10_135 li_X5_learntOf (by decide) (by decide) rfl rfl rfl (by decide) rfl rfl (Nat.le_of_ble_eq_true rfl) ⟨Nat.le_refl _, Or.inl rfl⟩ dX10_weighLearnt_12 ⟨rfl, hV0⟩ (fun r32 V33 hp34 => ?_)
    obtain ⟨y35, rfl, b36, rfl⟩ := hp34
    change pm_J X 15 [(0, (3, 73))] [(0, y35)] 118 V0
    refine pm_istore_n (lv' := [(1, (0, y35)), (0, (3, 73))]) hC dX10_weighLearnt_15 (by decide) rfl ?_
    refine pm_iload_n hC 0 dX10_weighLearnt_16 rfl ?_
    refine pm_iconst (v := (-1)) hC dX10_weighLearnt_17 ?_
    refine pm_icmp_ne (tgt := 28) hC ⟨by omega, by omega⟩ ⟨by decide, by decide⟩ dX10_weighLearnt_18 (by decide) (fun c37 => ?_) (fun c37 => ?_)
    · skip
      refine pm_aload_n hC 1 (by decide) dX10_weighLearnt_28 rfl ?_
      refine pm_iload_n hC 0 dX10_weighLearnt_29 rfl ?_
      refine pm_callV (ci := 10) (as := [(0, y35)]) (st := []) hC 73 (c_X10_weighSingle_73 y35 ⟨by omega, by omega⟩) lm_X10_122 li_X10_weighSingle (by decide) (by decide) rfl rfl rfl (by decide) rfl rfl (Nat.le_of_ble_eq_true rfl) ⟨Nat.le_refl _, Or.inl rfl⟩ dX10_weighLearnt_30 ⟨rfl, hV0⟩ (fun r38 V39 hp40 => ?_)
      obtain ⟨rfl, hV41, hF42⟩ := hp40
      change pm_J X 33 [(1, (0, y35)), (0, (3, 73))] [] 118 V39
      have hF43 := pm_fr.tr (pm_fr.rf (ws := [73, 76, 77]) (V := V0)) hF42 (by decide)
      exact pm_vret hC hR ⟨rfl, hV41, hF43⟩ dX10_weighLearnt_33
    · skip
      refine pm_aload_n hC 1 (by decide) dX10_weighLearnt_21 rfl ?_
      refine pm_callV (ci := 10) (as := []) (st := []) hC 73 c_X10_weighOdds_73 lm_X10_112 li_X10_weighOdds (by decide) (by decide) rfl rfl rfl (by decide) rfl rfl (Nat.le_of_ble_eq_true rfl) ⟨Nat.le_refl _, Or.inl rfl⟩ dX10_weighLearnt_22 ⟨rfl, hV0⟩ (fun r44 V45 hp46 => ?_)
      obtain ⟨rfl, hV47, hF48⟩ := hp46
      change pm_J X 25 [(1, (0, y35)), (0, (3, 73))] [] 118 V45
      have hF49 := pm_fr.tr (pm_fr.rf (ws := [73, 76, 77]) (V := V0)) hF48 (by decide)
      refine pm_goto (tgt := 33) hC dX10_weighLearnt_25 (by decide) ?_
      exact pm_vret hC hR ⟨rfl, hV47, hF49⟩ dX10_weighLearnt_33
set_option maxHeartbeats 4000000 in
set_option maxRecDepth 100000 in
theorem c_X10_soundBetween_73  : pm_K 2 yX10_soundBetween cX10_soundBetween 5 (some .int) (fun av V => av = [(3, 73)] ∧ pm_ok 0 90 V) (fun _ V r V' => ∃ y, r = some (0, y) ∧ (0 ≤ y ∧ y ≤ 8) ∧ V = V') := by
  refine pm_MT.of (by decide) ⟨Nat.le_refl _, by decide⟩ (fun av V h => by rw [h.1]; exact (by decide : pm_words [(3, 0)] ≤ 5)) ?_
  rintro X av V0 hC - hR ⟨rfl, hV0⟩
  change pm_J X 0 [(0, (3, 73))] [] 118 V0
  refine pm_iconst (v := 1) hC dX10_soundBetween_0 ?_
  refine pm_aload_n hC 0 (by decide) dX10_soundBetween_1 rfl ?_
  obtain ⟨y1, e2⟩ : ∃ y, V0 73 5 = y := ⟨_, rfl⟩
  have b3 := hV0.get 73 5 (lo := 1) (hi := 171) (by decide) (by decide) rfl
  rw [e2] at b3
  refine pm_getf (v := y1) hC 73 fl_X10_24 rfl rfl (by decide) rfl e2 dX10_soundBetween_2 ?_
  refine pm_aload_n hC 0 (by decide) dX10_soundBetween_5 rfl ?_
  obtain ⟨y4, e5⟩ : ∃ y, V0 73 6 = y := ⟨_, rfl⟩
  have b6 := hV0.get 73 6 (lo := 1) (hi := 171) (by decide) (by decide) rfl
  rw [e5] at b6
  refine pm_getf (v := y4) hC 73 fl_X10_27 rfl rfl (by decide) rfl e5 dX10_soundBetween_6 ?_
  refine pm_iadd hC dX10_soundBetween_9 ?_
  refine pm_mmax hC 4011 4012 1018 4013 ⟨by decide, by decide⟩ ⟨by omega, by omega⟩ (by decide) wL_X10_69 wS_mmax wI_math wC_mmax (Nat.le_of_ble_eq_true rfl) dX10_soundBetween_10 (fun y7 b8 => ?_)
  refine pm_istore_n (lv' := [(1, (0, y7)), (0, (3, 73))]) hC dX10_soundBetween_13 (by decide) rfl ?_
  refine pm_aload_n hC 1 (by decide) dX10_soundBetween_14 rfl ?_
  rcases hV0.get2 73 0 (lo := 45) (hi := 51) (by decide) (by decide) rfl with e9 | e9
  · skip
    refine pm_getf (v := 45) hC 73 fl_X10_59 rfl rfl (by decide) rfl e9 dX10_soundBetween_15 ?_
    have e10 : V0 45 1 = 46 := hV0.one 45 1 (by decide) (by decide) rfl
    refine pm_getf (v := 46) hC 45 fl_X10_82 rfl rfl (by decide) rfl e10 dX10_soundBetween_18 ?_
    refine pm_aload_n hC 1 (by decide) dX10_soundBetween_21 rfl ?_
    obtain ⟨y11, e12⟩ : ∃ y, V0 73 1 = y := ⟨_, rfl⟩
    have b13 := hV0.get 73 1 (lo := 0) (hi := 8) (by decide) (by decide) rfl
    rw [e12] at b13
    refine pm_getf (v := y11) hC 73 fl_X10_9 rfl rfl (by decide) rfl e12 dX10_soundBetween_22 ?_
    obtain ⟨y14, e15⟩ : ∃ y, V0 46 (y11 : Int).toNat = y := ⟨_, rfl⟩
    have b16 := hV0.get 46 (y11 : Int).toNat (lo := 0) (hi := 99) (by decide) (show _ < 9 by omega) rfl
    rw [e15] at b16
    refine pm_iaload (len := 9) (v := y14) hC 46 rfl rfl (by decide) ⟨by omega, by omega⟩ (by decide) e15 dX10_soundBetween_25 ?_
    refine pm_aload_n hC 1 (by decide) dX10_soundBetween_26 rfl ?_
    refine pm_getf (v := y4) hC 73 fl_X10_27 rfl rfl (by decide) rfl e5 dX10_soundBetween_27 ?_
    refine pm_imul hC dX10_soundBetween_30 ?_
    have b18 : 0 ≤ (y14 * y4) ∧ (y14 * y4) ≤ 16929 := pm_mulb (by omega) (by omega) (show y14 ≤ 99 by omega) (show y4 ≤ 171 by omega) (by decide)
    generalize (y14 * y4) = y17 at b18 ⊢
    refine pm_aload_n hC 1 (by decide) dX10_soundBetween_31 rfl ?_
    refine pm_getf (v := 45) hC 73 fl_X10_59 rfl rfl (by decide) rfl e9 dX10_soundBetween_32 ?_
    refine pm_getf (v := 46) hC 45 fl_X10_82 rfl rfl (by decide) rfl e10 dX10_soundBetween_35 ?_
    refine pm_aload_n hC 1 (by decide) dX10_soundBetween_38 rfl ?_
    obtain ⟨y19, e20⟩ : ∃ y, V0 73 2 = y := ⟨_, rfl⟩
    have b21 := hV0.get 73 2 (lo := 0) (hi := 8) (by decide) (by decide) rfl
    rw [e20] at b21
    refine pm_getf (v := y19) hC 73 fl_X10_15 rfl rfl (by decide) rfl e20 dX10_soundBetween_39 ?_
    obtain ⟨y22, e23⟩ : ∃ y, V0 46 (y19 : Int).toNat = y := ⟨_, rfl⟩
    have b24 := hV0.get 46 (y19 : Int).toNat (lo := 0) (hi := 99) (by decide) (show _ < 9 by omega) rfl
    rw [e23] at b24
    refine pm_iaload (len := 9) (v := y22) hC 46 rfl rfl (by decide) ⟨by omega, by omega⟩ (by decide) e23 dX10_soundBetween_42 ?_
    refine pm_aload_n hC 1 (by decide) dX10_soundBetween_43 rfl ?_
    refine pm_getf (v := y1) hC 73 fl_X10_24 rfl rfl (by decide) rfl e2 dX10_soundBetween_44 ?_
    refine pm_imul hC dX10_soundBetween_47 ?_
    have b26 : 0 ≤ (y22 * y1) ∧ (y22 * y1) ≤ 16929 := pm_mulb (by omega) (by omega) (show y22 ≤ 99 by omega) (show y1 ≤ 171 by omega) (by decide)
    generalize (y22 * y1) = y25 at b26 ⊢
    refine pm_iadd hC dX10_soundBetween_48 ?_
    refine pm_iload_n hC 0 dX10_soundBetween_49 rfl ?_
    refine pm_idiv hC ⟨by omega, by omega, by omega⟩ ⟨by omega, by omega, by omega⟩ dX10_soundBetween_50 ?_
    have b28 := pm_divb (x := (y17 + y25)) (y := y7) (by omega) (by omega)
    generalize ((y17 + y25) / y7) = y27 at b28 ⊢
    refine pm_istore_n (lv' := [(2, (0, y27)), (1, (0, y7)), (0, (3, 73))]) hC dX10_soundBetween_51 (by decide) rfl ?_
    refine pm_iconst (v := 0) hC dX10_soundBetween_52 ?_
    refine pm_istore_n (lv' := [(3, (0, 0)), (2, (0, y27)), (1, (0, y7)), (0, (3, 73))]) hC dX10_soundBetween_53 (by decide) rfl ?_
    refine pm_iconst (v := 1) hC dX10_soundBetween_54 ?_
    refine pm_istore (lv' := [(4, (0, 1)), (3, (0, 0)), (2, (0, y27)), (1, (0, y7)), (0, (3, 73))]) hC dX10_soundBetween_55 (by decide) rfl ?_
    have L33 : ∀ (N35 : Nat) (x29 : Int) (x31 : Int), (0 ≤ x29 ∧ x29 ≤ 8) → (1 ≤ x31 ∧ x31 ≤ 9) → (Int.toNat (9 - x31)) = N35 → pm_J X 57 [(0, (3, 73)), (1, (0, y7)), (2, (0, y27)), (3, (0, x29)), (4, (0, x31))] [] 118 V0 := by
      intro N35
      induction N35 using Nat.strongRecOn with
      | _ N35 ih36 =>
      intro x29 x31 b30 b32 hm34
      refine pm_iload hC 4 dX10_soundBetween_57 rfl ?_
      refine pm_aload_n hC 0 (by decide) dX10_soundBetween_59 rfl ?_
      refine pm_getf (v := 45) hC 73 fl_X10_59 rfl rfl (by decide) rfl e9 dX10_soundBetween_60 ?_
      obtain ⟨y37, e38⟩ : ∃ y, V0 45 0 = y := ⟨_, rfl⟩
      have b39 := hV0.get 45 0 (lo := 0) (hi := 9) (by decide) (by decide) rfl
      rw [e38] at b39
      refine pm_getf (v := y37) hC 45 fl_X10_79 rfl rfl (by decide) rfl e38 dX10_soundBetween_63 ?_
      refine pm_icmp_ge (tgt := 118) hC ⟨by omega, by omega⟩ ⟨by omega, by omega⟩ dX10_soundBetween_66 (by decide) (fun c40 => ?_) (fun c40 => ?_)
      · skip
        refine pm_iload_n hC 3 dX10_soundBetween_118 rfl ?_
        exact pm_iret hC hR pm_nar0 ⟨x29, rfl, ⟨by omega, by omega⟩, rfl⟩ dX10_soundBetween_119
      · skip
        refine pm_aload_n hC 0 (by decide) dX10_soundBetween_69 rfl ?_
        refine pm_iload hC 4 dX10_soundBetween_70 rfl ?_
        refine pm_iload_n hC 2 dX10_soundBetween_72 rfl ?_
        refine pm_aload_n hC 0 (by decide) dX10_soundBetween_73 rfl ?_
        refine pm_getf (v := 45) hC 73 fl_X10_59 rfl rfl (by decide) rfl e9 dX10_soundBetween_74 ?_
        have e41 : V0 45 2 = 47 := hV0.one 45 2 (by decide) (by decide) rfl
        refine pm_getf (v := 47) hC 45 fl_X10_93 rfl rfl (by decide) rfl e41 dX10_soundBetween_77 ?_
        refine pm_aload_n hC 0 (by decide) dX10_soundBetween_80 rfl ?_
        refine pm_getf (v := y11) hC 73 fl_X10_9 rfl rfl (by decide) rfl e12 dX10_soundBetween_81 ?_
        obtain ⟨y42, e43⟩ : ∃ y, V0 47 (y11 : Int).toNat = y := ⟨_, rfl⟩
        have b44 := hV0.get 47 (y11 : Int).toNat (lo := 0) (hi := 99) (by decide) (show _ < 9 by omega) rfl
        rw [e43] at b44
        refine pm_iaload (len := 9) (v := y42) hC 47 rfl rfl (by decide) ⟨by omega, by omega⟩ (by decide) e43 dX10_soundBetween_84 ?_
        refine pm_callV (ci := 10) (as := [(0, x31), (0, y27), (0, y42)]) (st := []) hC 73 (c_X10_farFrom_73 x31 y27 y42 ⟨by omega, by omega⟩ ⟨by omega, by omega⟩ ⟨by omega, by omega⟩) lm_X10_96 li_X10_farFrom (by decide) (by decide) rfl rfl rfl (by decide) rfl rfl (Nat.le_of_ble_eq_true rfl) ⟨Nat.le_refl _, Or.inl rfl⟩ dX10_soundBetween_85 ⟨rfl, hV0⟩ (fun r45 V46 hp47 => ?_)
        obtain ⟨y48, rfl, b49, rfl⟩ := hp47
        change pm_J X 88 [(0, (3, 73)), (1, (0, y7)), (2, (0, y27)), (3, (0, x29)), (4, (0, x31))] [(0, y48)] 118 V0
        refine pm_aload_n hC 0 (by decide) dX10_soundBetween_88 rfl ?_
        refine pm_iload_n hC 3 dX10_soundBetween_89 rfl ?_
        refine pm_iload_n hC 2 dX10_soundBetween_90 rfl ?_
        refine pm_aload_n hC 0 (by decide) dX10_soundBetween_91 rfl ?_
        refine pm_getf (v := 45) hC 73 fl_X10_59 rfl rfl (by decide) rfl e9 dX10_soundBetween_92 ?_
        refine pm_getf (v := 47) hC 45 fl_X10_93 rfl rfl (by decide) rfl e41 dX10_soundBetween_95 ?_
        refine pm_aload_n hC 0 (by decide) dX10_soundBetween_98 rfl ?_
        refine pm_getf (v := y11) hC 73 fl_X10_9 rfl rfl (by decide) rfl e12 dX10_soundBetween_99 ?_
        refine pm_iaload (len := 9) (v := y42) hC 47 rfl rfl (by decide) ⟨by omega, by omega⟩ (by decide) e43 dX10_soundBetween_102 ?_
        refine pm_callV (ci := 10) (as := [(0, x29), (0, y27), (0, y42)]) (st := [(0, y48)]) hC 73 (c_X10_farFrom_73 x29 y27 y42 ⟨by omega, by omega⟩ ⟨by omega, by omega⟩ ⟨by omega, by omega⟩) lm_X10_96 li_X10_farFrom (by decide) (by decide) rfl rfl rfl (by decide) rfl rfl (Nat.le_of_ble_eq_true rfl) ⟨Nat.le_refl _, Or.inl rfl⟩ dX10_soundBetween_103 ⟨rfl, hV0⟩ (fun r50 V51 hp52 => ?_)
        obtain ⟨y53, rfl, b54, rfl⟩ := hp52
        change pm_J X 106 [(0, (3, 73)), (1, (0, y7)), (2, (0, y27)), (3, (0, x29)), (4, (0, x31))] [(0, y53), (0, y48)] 118 V0
        refine pm_icmp_ge (tgt := 112) hC ⟨by omega, by omega⟩ ⟨by omega, by omega⟩ dX10_soundBetween_106 (by decide) (fun c55 => ?_) (fun c55 => ?_)
        · skip
          obtain ⟨x56, ei57⟩ : ∃ y : Int, x31 + 1 = y := ⟨_, rfl⟩
          refine pm_iinc (y := x56) (lv' := [(4, (0, x56)), (0, (3, 73)), (1, (0, y7)), (2, (0, y27)), (3, (0, x29))]) hC 4 dX10_soundBetween_112 (by decide) rfl ei57 rfl ?_
          refine pm_goto (tgt := 57) hC dX10_soundBetween_115 (by decide) ?_
          refine pm_lvsub [1, 2, 3, 4, 0] (lv' := [(0, (3, 73)), (1, (0, y7)), (2, (0, y27)), (3, (0, x29)), (4, (0, x56))]) rfl ?_
          exact ih36 _ (by omega) x29 x56 ⟨by omega, by omega⟩ ⟨by omega, by omega⟩ rfl
        · skip
          refine pm_iload hC 4 dX10_soundBetween_109 rfl ?_
          refine pm_istore_n (lv' := [(3, (0, x31)), (0, (3, 73)), (1, (0, y7)), (2, (0, y27)), (4, (0, x31))]) hC dX10_soundBetween_111 (by decide) rfl ?_
          obtain ⟨x58, ei59⟩ : ∃ y : Int, x31 + 1 = y := ⟨_, rfl⟩
          refine pm_iinc (y := x58) (lv' := [(4, (0, x58)), (3, (0, x31)), (0, (3, 73)), (1, (0, y7)), (2, (0, y27))]) hC 4 dX10_soundBetween_112 (by decide) rfl ei59 rfl ?_
          refine pm_goto (tgt := 57) hC dX10_soundBetween_115 (by decide) ?_
          refine pm_lvsub [2, 3, 4, 1, 0] (lv' := [(0, (3, 73)), (1, (0, y7)), (2, (0, y27)), (3, (0, x31)), (4, (0, x58))]) rfl ?_
          exact ih36 _ (by omega) x31 x58 ⟨by omega, by omega⟩ ⟨by omega, by omega⟩ rfl
    refine pm_lvsub [4, 3, 2, 1, 0] (lv' := [(0, (3, 73)), (1, (0, y7)), (2, (0, y27)), (3, (0, 0)), (4, (0, 1))]) rfl ?_
    exact L33 _ 0 1 ⟨by decide, by decide⟩ ⟨by decide, by decide⟩ rfl
  · skip
    refine pm_getf (v := 51) hC 73 fl_X10_59 rfl rfl (by decide) rfl e9 dX10_soundBetween_15 ?_
    have e60 : V0 51 1 = 52 := hV0.one 51 1 (by decide) (by decide) rfl
    refine pm_getf (v := 52) hC 51 fl_X10_82 rfl rfl (by decide) rfl e60 dX10_soundBetween_18 ?_
    refine pm_aload_n hC 1 (by decide) dX10_soundBetween_21 rfl ?_
    obtain ⟨y61, e62⟩ : ∃ y, V0 73 1 = y := ⟨_, rfl⟩
    have b63 := hV0.get 73 1 (lo := 0) (hi := 8) (by decide) (by decide) rfl
    rw [e62] at b63
    refine pm_getf (v := y61) hC 73 fl_X10_9 rfl rfl (by decide) rfl e62 dX10_soundBetween_22 ?_
    obtain ⟨y64, e65⟩ : ∃ y, V0 52 (y61 : Int).toNat = y := ⟨_, rfl⟩
    have b66 := hV0.get 52 (y61 : Int).toNat (lo := 0) (hi := 99) (by decide) (show _ < 9 by omega) rfl
    rw [e65] at b66
    refine pm_iaload (len := 9) (v := y64) hC 52 rfl rfl (by decide) ⟨by omega, by omega⟩ (by decide) e65 dX10_soundBetween_25 ?_
    refine pm_aload_n hC 1 (by decide) dX10_soundBetween_26 rfl ?_
    refine pm_getf (v := y4) hC 73 fl_X10_27 rfl rfl (by decide) rfl e5 dX10_soundBetween_27 ?_
    refine pm_imul hC dX10_soundBetween_30 ?_
    have b68 : 0 ≤ (y64 * y4) ∧ (y64 * y4) ≤ 16929 := pm_mulb (by omega) (by omega) (show y64 ≤ 99 by omega) (show y4 ≤ 171 by omega) (by decide)
    generalize (y64 * y4) = y67 at b68 ⊢
    refine pm_aload_n hC 1 (by decide) dX10_soundBetween_31 rfl ?_
    refine pm_getf (v := 51) hC 73 fl_X10_59 rfl rfl (by decide) rfl e9 dX10_soundBetween_32 ?_
    refine pm_getf (v := 52) hC 51 fl_X10_82 rfl rfl (by decide) rfl e60 dX10_soundBetween_35 ?_
    refine pm_aload_n hC 1 (by decide) dX10_soundBetween_38 rfl ?_
    obtain ⟨y69, e70⟩ : ∃ y, V0 73 2 = y := ⟨_, rfl⟩
    have b71 := hV0.get 73 2 (lo := 0) (hi := 8) (by decide) (by decide) rfl
    rw [e70] at b71
    refine pm_getf (v := y69) hC 73 fl_X10_15 rfl rfl (by decide) rfl e70 dX10_soundBetween_39 ?_
    obtain ⟨y72, e73⟩ : ∃ y, V0 52 (y69 : Int).toNat = y := ⟨_, rfl⟩
    have b74 := hV0.get 52 (y69 : Int).toNat (lo := 0) (hi := 99) (by decide) (show _ < 9 by omega) rfl
    rw [e73] at b74
    refine pm_iaload (len := 9) (v := y72) hC 52 rfl rfl (by decide) ⟨by omega, by omega⟩ (by decide) e73 dX10_soundBetween_42 ?_
    refine pm_aload_n hC 1 (by decide) dX10_soundBetween_43 rfl ?_
    refine pm_getf (v := y1) hC 73 fl_X10_24 rfl rfl (by decide) rfl e2 dX10_soundBetween_44 ?_
    refine pm_imul hC dX10_soundBetween_47 ?_
    have b76 : 0 ≤ (y72 * y1) ∧ (y72 * y1) ≤ 16929 := pm_mulb (by omega) (by omega) (show y72 ≤ 99 by omega) (show y1 ≤ 171 by omega) (by decide)
    generalize (y72 * y1) = y75 at b76 ⊢
    refine pm_iadd hC dX10_soundBetween_48 ?_
    refine pm_iload_n hC 0 dX10_soundBetween_49 rfl ?_
    refine pm_idiv hC ⟨by omega, by omega, by omega⟩ ⟨by omega, by omega, by omega⟩ dX10_soundBetween_50 ?_
    have b78 := pm_divb (x := (y67 + y75)) (y := y7) (by omega) (by omega)
    generalize ((y67 + y75) / y7) = y77 at b78 ⊢
    refine pm_istore_n (lv' := [(2, (0, y77)), (1, (0, y7)), (0, (3, 73))]) hC dX10_soundBetween_51 (by decide) rfl ?_
    refine pm_iconst (v := 0) hC dX10_soundBetween_52 ?_
    refine pm_istore_n (lv' := [(3, (0, 0)), (2, (0, y77)), (1, (0, y7)), (0, (3, 73))]) hC dX10_soundBetween_53 (by decide) rfl ?_
    refine pm_iconst (v := 1) hC dX10_soundBetween_54 ?_
    refine pm_istore (lv' := [(4, (0, 1)), (3, (0, 0)), (2, (0, y77)), (1, (0, y7)), (0, (3, 73))]) hC dX10_soundBetween_55 (by decide) rfl ?_
    have L83 : ∀ (N85 : Nat) (x79 : Int) (x81 : Int), (0 ≤ x79 ∧ x79 ≤ 8) → (1 ≤ x81 ∧ x81 ≤ 9) → (Int.toNat (9 - x81)) = N85 → pm_J X 57 [(0, (3, 73)), (1, (0, y7)), (2, (0, y77)), (3, (0, x79)), (4, (0, x81))] [] 118 V0 := by
      intro N85
      induction N85 using Nat.strongRecOn with
      | _ N85 ih86 =>
      intro x79 x81 b80 b82 hm84
      refine pm_iload hC 4 dX10_soundBetween_57 rfl ?_
      refine pm_aload_n hC 0 (by decide) dX10_soundBetween_59 rfl ?_
      refine pm_getf (v := 51) hC 73 fl_X10_59 rfl rfl (by decide) rfl e9 dX10_soundBetween_60 ?_
      obtain ⟨y87, e88⟩ : ∃ y, V0 51 0 = y := ⟨_, rfl⟩
      have b89 := hV0.get 51 0 (lo := 0) (hi := 9) (by decide) (by decide) rfl
      rw [e88] at b89
      refine pm_getf (v := y87) hC 51 fl_X10_79 rfl rfl (by decide) rfl e88 dX10_soundBetween_63 ?_
      refine pm_icmp_ge (tgt := 118) hC ⟨by omega, by omega⟩ ⟨by omega, by omega⟩ dX10_soundBetween_66 (by decide) (fun c90 => ?_) (fun c90 => ?_)
      · skip
        refine pm_iload_n hC 3 dX10_soundBetween_118 rfl ?_
        exact pm_iret hC hR pm_nar0 ⟨x79, rfl, ⟨by omega, by omega⟩, rfl⟩ dX10_soundBetween_119
      · skip
        refine pm_aload_n hC 0 (by decide) dX10_soundBetween_69 rfl ?_
        refine pm_iload hC 4 dX10_soundBetween_70 rfl ?_
        refine pm_iload_n hC 2 dX10_soundBetween_72 rfl ?_
        refine pm_aload_n hC 0 (by decide) dX10_soundBetween_73 rfl ?_
        refine pm_getf (v := 51) hC 73 fl_X10_59 rfl rfl (by decide) rfl e9 dX10_soundBetween_74 ?_
        have e91 : V0 51 2 = 53 := hV0.one 51 2 (by decide) (by decide) rfl
        refine pm_getf (v := 53) hC 51 fl_X10_93 rfl rfl (by decide) rfl e91 dX10_soundBetween_77 ?_
        refine pm_aload_n hC 0 (by decide) dX10_soundBetween_80 rfl ?_
        refine pm_getf (v := y61) hC 73 fl_X10_9 rfl rfl (by decide) rfl e62 dX10_soundBetween_81 ?_
        obtain ⟨y92, e93⟩ : ∃ y, V0 53 (y61 : Int).toNat = y := ⟨_, rfl⟩
        have b94 := hV0.get 53 (y61 : Int).toNat (lo := 0) (hi := 99) (by decide) (show _ < 9 by omega) rfl
        rw [e93] at b94
        refine pm_iaload (len := 9) (v := y92) hC 53 rfl rfl (by decide) ⟨by omega, by omega⟩ (by decide) e93 dX10_soundBetween_84 ?_
        refine pm_callV (ci := 10) (as := [(0, x81), (0, y77), (0, y92)]) (st := []) hC 73 (c_X10_farFrom_73 x81 y77 y92 ⟨by omega, by omega⟩ ⟨by omega, by omega⟩ ⟨by omega, by omega⟩) lm_X10_96 li_X10_farFrom (by decide) (by decide) rfl rfl rfl (by decide) rfl rfl (Nat.le_of_ble_eq_true rfl) ⟨Nat.le_refl _, Or.inl rfl⟩ dX10_soundBetween_85 ⟨rfl, hV0⟩ (fun r95 V96 hp97 => ?_)
        obtain ⟨y98, rfl, b99, rfl⟩ := hp97
        change pm_J X 88 [(0, (3, 73)), (1, (0, y7)), (2, (0, y77)), (3, (0, x79)), (4, (0, x81))] [(0, y98)] 118 V0
        refine pm_aload_n hC 0 (by decide) dX10_soundBetween_88 rfl ?_
        refine pm_iload_n hC 3 dX10_soundBetween_89 rfl ?_
        refine pm_iload_n hC 2 dX10_soundBetween_90 rfl ?_
        refine pm_aload_n hC 0 (by decide) dX10_soundBetween_91 rfl ?_
        refine pm_getf (v := 51) hC 73 fl_X10_59 rfl rfl (by decide) rfl e9 dX10_soundBetween_92 ?_
        refine pm_getf (v := 53) hC 51 fl_X10_93 rfl rfl (by decide) rfl e91 dX10_soundBetween_95 ?_
        refine pm_aload_n hC 0 (by decide) dX10_soundBetween_98 rfl ?_
        refine pm_getf (v := y61) hC 73 fl_X10_9 rfl rfl (by decide) rfl e62 dX10_soundBetween_99 ?_
        refine pm_iaload (len := 9) (v := y92) hC 53 rfl rfl (by decide) ⟨by omega, by omega⟩ (by decide) e93 dX10_soundBetween_102 ?_
        refine pm_callV (ci := 10) (as := [(0, x79), (0, y77), (0, y92)]) (st := [(0, y98)]) hC 73 (c_X10_farFrom_73 x79 y77 y92 ⟨by omega, by omega⟩ ⟨by omega, by omega⟩ ⟨by omega, by omega⟩) lm_X10_96 li_X10_farFrom (by decide) (by decide) rfl rfl rfl (by decide) rfl rfl (Nat.le_of_ble_eq_true rfl) ⟨Nat.le_refl _, Or.inl rfl⟩ dX10_soundBetween_103 ⟨rfl, hV0⟩ (fun r100 V101 hp102 => ?_)
        obtain ⟨y103, rfl, b104, rfl⟩ := hp102
        change pm_J X 106 [(0, (3, 73)), (1, (0, y7)), (2, (0, y77)), (3, (0, x79)), (4, (0, x81))] [(0, y103), (0, y98)] 118 V0
        refine pm_icmp_ge (tgt := 112) hC ⟨by omega, by omega⟩ ⟨by omega, by omega⟩ dX10_soundBetween_106 (by decide) (fun c105 => ?_) (fun c105 => ?_)
        · skip
          obtain ⟨x106, ei107⟩ : ∃ y : Int, x81 + 1 = y := ⟨_, rfl⟩
          refine pm_iinc (y := x106) (lv' := [(4, (0, x106)), (0, (3, 73)), (1, (0, y7)), (2, (0, y77)), (3, (0, x79))]) hC 4 dX10_soundBetween_112 (by decide) rfl ei107 rfl ?_
          refine pm_goto (tgt := 57) hC dX10_soundBetween_115 (by decide) ?_
          refine pm_lvsub [1, 2, 3, 4, 0] (lv' := [(0, (3, 73)), (1, (0, y7)), (2, (0, y77)), (3, (0, x79)), (4, (0, x106))]) rfl ?_
          exact ih86 _ (by omega) x79 x106 ⟨by omega, by omega⟩ ⟨by omega, by omega⟩ rfl
        · skip
          refine pm_iload hC 4 dX10_soundBetween_109 rfl ?_
          refine pm_istore_n (lv' := [(3, (0, x81)), (0, (3, 73)), (1, (0, y7)), (2, (0, y77)), (4, (0, x81))]) hC dX10_soundBetween_111 (by decide) rfl ?_
          obtain ⟨x108, ei109⟩ : ∃ y : Int, x81 + 1 = y := ⟨_, rfl⟩
          refine pm_iinc (y := x108) (lv' := [(4, (0, x108)), (3, (0, x81)), (0, (3, 73)), (1, (0, y7)), (2, (0, y77))]) hC 4 dX10_soundBetween_112 (by decide) rfl ei109 rfl ?_
          refine pm_goto (tgt := 57) hC dX10_soundBetween_115 (by decide) ?_
          refine pm_lvsub [2, 3, 4, 1, 0] (lv' := [(0, (3, 73)), (1, (0, y7)), (2, (0, y77)), (3, (0, x81)), (4, (0, x108))]) rfl ?_
          exact ih86 _ (by omega) x81 x108 ⟨by omega, by omega⟩ ⟨by omega, by omega⟩ rfl
    refine pm_lvsub [4, 3, 2, 1, 0] (lv' := [(0, (3, 73)), (1, (0, y7)), (2, (0, y77)), (3, (0, 0)), (4, (0, 1))]) rfl ?_
    exact L83 _ 0 1 ⟨by decide, by decide⟩ ⟨by decide, by decide⟩ rfl
set_option maxHeartbeats 4000000 in
set_option maxRecDepth 100000 in
theorem c_X10_weigh_73 (a1 : Int) (h0 : (-2147483648) ≤ a1 ∧ a1 ≤ 2147483647) : pm_K 4 yX10_weigh cX10_weigh 2 none (fun av V => av = [(3, 73), (0, a1)] ∧ pm_ok 0 90 V) (fun _ V r V' => r = none ∧ pm_ok 0 90 V' ∧ pm_fr [73, 76, 77] V V') := by
  refine pm_MT.of (by decide) ⟨Nat.le_refl _, by decide⟩ (fun av V h => by rw [h.1]; exact (by decide : pm_words [(3, 0), (0, 0)] ≤ 2)) ?_
  rintro X av V0 hC - hR ⟨rfl, hV0⟩
  change pm_J X 0 [(0, (3, 73)), (1, (0, a1))] [] 118 V0
  refine pm_iload_n hC 1 dX10_weigh_0 rfl ?_
  rcases (show (a1 < 1 ∨ 6 < a1) ∨ a1 = (1 : Int) ∨ a1 = (2 : Int) ∨ a1 = (3 : Int) ∨ a1 = (4 : Int) ∨ a1 = (5 : Int) ∨ a1 = (6 : Int) by omega) with c1 | c1 | c1 | c1 | c1 | c1 | c1
  · skip
    refine pm_tableOut (tgt := 86) hC ⟨by omega, by omega⟩ dX10_weigh_1 c1 (by decide) ?_
    refine pm_aload_n hC 0 (by decide) dX10_weigh_86 rfl ?_
    refine pm_callV (ci := 10) (as := []) (st := []) hC 73 c_X10_weighVoice_73 lm_X10_126 li_X10_weighVoice (by decide) (by decide) rfl rfl rfl (by decide) rfl rfl (Nat.le_of_ble_eq_true rfl) ⟨Nat.le_refl _, Or.inl rfl⟩ dX10_weigh_87 ⟨rfl, hV0⟩ (fun r2 V3 hp4 => ?_)
    obtain ⟨rfl, hV5, hF6⟩ := hp4
    change pm_J X 90 [(0, (3, 73)), (1, (0, a1))] [] 118 V3
    have hF7 := pm_fr.tr (pm_fr.rf (ws := [73, 76, 77]) (V := V0)) hF6 (by decide)
    exact pm_vret hC hR ⟨rfl, hV5, hF7⟩ dX10_weigh_90
  · skip
    refine pm_tableIn (tgt := 40) (off := 39) hC ⟨by omega, by omega⟩ dX10_weigh_1 (by omega) (by omega) (by rw [c1]; rfl) (by decide) ?_
    refine pm_aload_n hC 0 (by decide) dX10_weigh_40 rfl ?_
    refine pm_callV (ci := 10) (as := []) (st := []) hC 73 c_X10_weighFace_73 lm_X10_103 li_X10_weighFace (by decide) (by decide) rfl rfl rfl (by decide) rfl rfl (Nat.le_of_ble_eq_true rfl) ⟨Nat.le_refl _, Or.inl rfl⟩ dX10_weigh_41 ⟨rfl, hV0⟩ (fun r8 V9 hp10 => ?_)
    obtain ⟨rfl, hV11, hF12⟩ := hp10
    change pm_J X 44 [(0, (3, 73)), (1, (0, a1))] [] 118 V9
    have hF13 := pm_fr.tr (pm_fr.rf (ws := [73, 76, 77]) (V := V0)) hF12 (by decide)
    refine pm_goto (tgt := 90) hC dX10_weigh_44 (by decide) ?_
    exact pm_vret hC hR ⟨rfl, hV11, hF13⟩ dX10_weigh_90
  · skip
    refine pm_tableIn (tgt := 47) (off := 46) hC ⟨by omega, by omega⟩ dX10_weigh_1 (by omega) (by omega) (by rw [c1]; rfl) (by decide) ?_
    refine pm_aload_n hC 0 (by decide) dX10_weigh_47 rfl ?_
    refine pm_callV (ci := 10) (as := []) (st := []) hC 73 c_X10_weighSurer_73 lm_X10_106 li_X10_weighSurer (by decide) (by decide) rfl rfl rfl (by decide) rfl rfl (Nat.le_of_ble_eq_true rfl) ⟨Nat.le_refl _, Or.inl rfl⟩ dX10_weigh_48 ⟨rfl, hV0⟩ (fun r14 V15 hp16 => ?_)
    obtain ⟨rfl, hV17, hF18⟩ := hp16
    change pm_J X 51 [(0, (3, 73)), (1, (0, a1))] [] 118 V15
    have hF19 := pm_fr.tr (pm_fr.rf (ws := [73, 76, 77]) (V := V0)) hF18 (by decide)
    refine pm_goto (tgt := 90) hC dX10_weigh_51 (by decide) ?_
    exact pm_vret hC hR ⟨rfl, hV17, hF19⟩ dX10_weigh_90
  · skip
    refine pm_tableIn (tgt := 54) (off := 53) hC ⟨by omega, by omega⟩ dX10_weigh_1 (by omega) (by omega) (by rw [c1]; rfl) (by decide) ?_
    refine pm_aload_n hC 0 (by decide) dX10_weigh_54 rfl ?_
    refine pm_callV (ci := 10) (as := []) (st := []) hC 73 c_X10_weighOne_73 lm_X10_109 li_X10_weighOne (by decide) (by decide) rfl rfl rfl (by decide) rfl rfl (Nat.le_of_ble_eq_true rfl) ⟨Nat.le_refl _, Or.inl rfl⟩ dX10_weigh_55 ⟨rfl, hV0⟩ (fun r20 V21 hp22 => ?_)
    obtain ⟨rfl, hV23, hF24⟩ := hp22
    change pm_J X 58 [(0, (3, 73)), (1, (0, a1))] [] 118 V21
    have hF25 := pm_fr.tr (pm_fr.rf (ws := [73, 76, 77]) (V := V0)) hF24 (by decide)
    refine pm_goto (tgt := 90) hC dX10_weigh_58 (by decide) ?_
    exact pm_vret hC hR ⟨rfl, hV23, hF25⟩ dX10_weigh_90
  · skip
    refine pm_tableIn (tgt := 61) (off := 60) hC ⟨by omega, by omega⟩ dX10_weigh_1 (by omega) (by omega) (by rw [c1]; rfl) (by decide) ?_
    refine pm_aload_n hC 0 (by decide) dX10_weigh_61 rfl ?_
    refine pm_callV (ci := 10) (as := []) (st := []) hC 73 c_X10_weighOdds_73 lm_X10_112 li_X10_weighOdds (by decide) (by decide) rfl rfl rfl (by decide) rfl rfl (Nat.le_of_ble_eq_true rfl) ⟨Nat.le_refl _, Or.inl rfl⟩ dX10_weigh_62 ⟨rfl, hV0⟩ (fun r26 V27 hp28 => ?_)
    obtain ⟨rfl, hV29, hF30⟩ := hp28
    change pm_J X 65 [(0, (3, 73)), (1, (0, a1))] [] 118 V27
    have hF31 := pm_fr.tr (pm_fr.rf (ws := [73, 76, 77]) (V := V0)) hF30 (by decide)
    refine pm_goto (tgt := 90) hC dX10_weigh_65 (by decide) ?_
    exact pm_vret hC hR ⟨rfl, hV29, hF31⟩ dX10_weigh_90
  · skip
    refine pm_tableIn (tgt := 68) (off := 67) hC ⟨by omega, by omega⟩ dX10_weigh_1 (by omega) (by omega) (by rw [c1]; rfl) (by decide) ?_
    refine pm_aload_n hC 0 (by decide) dX10_weigh_68 rfl ?_
    refine pm_callV (ci := 10) (as := []) (st := []) hC 73 c_X10_weighLearnt_73 lm_X10_115 li_X10_weighLearnt (by decide) (by decide) rfl rfl rfl (by decide) rfl rfl (Nat.le_of_ble_eq_true rfl) ⟨Nat.le_refl _, Or.inl rfl⟩ dX10_weigh_69 ⟨rfl, hV0⟩ (fun r32 V33 hp34 => ?_)
    obtain ⟨rfl, hV35, hF36⟩ := hp34
    change pm_J X 72 [(0, (3, 73)), (1, (0, a1))] [] 118 V33
    have hF37 := pm_fr.tr (pm_fr.rf (ws := [73, 76, 77]) (V := V0)) hF36 (by decide)
    refine pm_goto (tgt := 90) hC dX10_weigh_72 (by decide) ?_
    exact pm_vret hC hR ⟨rfl, hV35, hF37⟩ dX10_weigh_90
  · skip
    refine pm_tableIn (tgt := 75) (off := 74) hC ⟨by omega, by omega⟩ dX10_weigh_1 (by omega) (by omega) (by rw [c1]; rfl) (by decide) ?_
    refine pm_aload_n hC 0 (by decide) dX10_weigh_75 rfl ?_
    refine pm_aload_n hC 0 (by decide) dX10_weigh_76 rfl ?_
    refine pm_callV (ci := 10) (as := []) (st := [(3, 73)]) hC 73 c_X10_soundBetween_73 lm_X10_118 li_X10_soundBetween (by decide) (by decide) rfl rfl rfl (by decide) rfl rfl (Nat.le_of_ble_eq_true rfl) ⟨Nat.le_refl _, Or.inl rfl⟩ dX10_weigh_77 ⟨rfl, hV0⟩ (fun r38 V39 hp40 => ?_)
    obtain ⟨y41, rfl, b42, rfl⟩ := hp40
    change pm_J X 80 [(0, (3, 73)), (1, (0, a1))] [(0, y41), (3, 73)] 118 V0
    refine pm_callV (ci := 10) (as := [(0, y41)]) (st := []) hC 73 (c_X10_weighSingle_73 y41 ⟨by omega, by omega⟩) lm_X10_122 li_X10_weighSingle (by decide) (by decide) rfl rfl rfl (by decide) rfl rfl (Nat.le_of_ble_eq_true rfl) ⟨Nat.le_refl _, Or.inl rfl⟩ dX10_weigh_80 ⟨rfl, hV0⟩ (fun r43 V44 hp45 => ?_)
    obtain ⟨rfl, hV46, hF47⟩ := hp45
    change pm_J X 83 [(0, (3, 73)), (1, (0, a1))] [] 118 V44
    have hF48 := pm_fr.tr (pm_fr.rf (ws := [73, 76, 77]) (V := V0)) hF47 (by decide)
    refine pm_goto (tgt := 90) hC dX10_weigh_83 (by decide) ?_
    exact pm_vret hC hR ⟨rfl, hV46, hF48⟩ dX10_weigh_90
set_option maxHeartbeats 4000000 in
set_option maxRecDepth 100000 in
theorem c_X11_weighs_0 (a1 a2 a3 a4 : Int) (h0 : (-2147483648) ≤ a1 ∧ a1 ≤ 2147483647) (h1 : (-2147483648) ≤ a2 ∧ a2 ≤ 2147483647) (h2 : (-2147483648) ≤ a3 ∧ a3 ≤ 2147483647) (h3 : (-2147483648) ≤ a4 ∧ a4 ≤ 2147483647) : pm_K 5 yX11_weighs cX11_weighs 5 (some .boolean) (fun av V => av = [(3, 0), (0, a1), (0, a2), (0, a3), (0, a4)] ∧ pm_ok 0 90 V) (fun _ V r V' => ∃ y, r = some (0, y) ∧ (0 ≤ y ∧ y ≤ 1 ∧ (y = 1 → (0 ≤ a1 ∧ a1 ≤ 6 ∧ 0 ≤ a2 ∧ a2 ≤ 999 ∧ 0 ≤ a3 ∧ a3 ≤ 99 ∧ (-99) ≤ a4 ∧ a4 ≤ 99 ∧ a2 % 10 ≤ 8 ∧ a2 / 10 % 10 ≤ 8))) ∧ pm_ok 0 90 V' ∧ pm_fr [73, 74, 75, 76, 77] V V') := by
  refine pm_MT.of (by decide) ⟨Nat.le_refl _, by decide⟩ (fun av V h => by rw [h.1]; exact (by decide : pm_words [(3, 0), (0, 0), (0, 0), (0, 0), (0, 0)] ≤ 5)) ?_
  rintro X av V0 hC - hR ⟨rfl, hV0⟩
  change pm_J X 0 [(0, (3, 0)), (1, (0, a1)), (2, (0, a2)), (3, (0, a3)), (4, (0, a4))] [] 118 V0
  refine pm_iload_n hC 1 dX11_weighs_0 rfl ?_
  refine pm_callS (as := [(0, a1)]) (st := []) hC (c_X11_isLaw a1 ⟨by omega, by omega⟩) lm_X11_262 ls_X11_isLaw (by decide) (by decide) rfl rfl (Nat.le_of_ble_eq_true rfl) ⟨Nat.le_refl _, Or.inl rfl⟩ dX11_weighs_1 ⟨rfl, hV0⟩ (fun r1 V2 hp3 => ?_)
  obtain ⟨y4, rfl, b5, rfl⟩ := hp3
  change pm_J X 4 [(0, (3, 0)), (1, (0, a1)), (2, (0, a2)), (3, (0, a3)), (4, (0, a4))] [(0, y4)] 118 V0
  refine pm_if_eq (tgt := 18) hC ⟨by omega, by omega⟩ dX11_weighs_4 (by decide) (fun c6 => ?_) (fun c6 => ?_)
  · skip
    refine pm_iconst (v := 0) hC dX11_weighs_18 ?_
    exact pm_iret hC hR (pm_narZ (by omega)) ⟨0, rfl, ⟨by omega, by omega, by omega⟩, hV0, (pm_fr.rf (ws := [73, 74, 75, 76, 77]) (V := V0))⟩ dX11_weighs_19
  · skip
    refine pm_aload_n hC 0 (by decide) dX11_weighs_7 rfl ?_
    refine pm_iload_n hC 2 dX11_weighs_8 rfl ?_
    refine pm_iload_n hC 3 dX11_weighs_9 rfl ?_
    refine pm_iload hC 4 dX11_weighs_10 rfl ?_
    refine pm_callV (ci := 11) (as := [(0, a2), (0, a3), (0, a4)]) (st := []) hC 0 (c_X11_isTrial_0 a2 a3 a4 ⟨by omega, by omega⟩ ⟨by omega, by omega⟩ ⟨by omega, by omega⟩) lm_X11_225 li_X11_isTrial (by decide) (by decide) rfl rfl rfl (by decide) rfl rfl (Nat.le_of_ble_eq_true rfl) ⟨Nat.le_refl _, Or.inl rfl⟩ dX11_weighs_12 ⟨rfl, hV0⟩ (fun r7 V8 hp9 => ?_)
    obtain ⟨y10, rfl, b11, rfl⟩ := hp9
    change pm_J X 15 [(0, (3, 0)), (1, (0, a1)), (2, (0, a2)), (3, (0, a3)), (4, (0, a4))] [(0, y10)] 118 V0
    refine pm_if_ne (tgt := 20) hC ⟨by omega, by omega⟩ dX11_weighs_15 (by decide) (fun c12 => ?_) (fun c12 => ?_)
    · skip
      refine pm_aload_n hC 0 (by decide) dX11_weighs_20 rfl ?_
      refine pm_iload_n hC 2 dX11_weighs_21 rfl ?_
      refine pm_iload_n hC 3 dX11_weighs_22 rfl ?_
      refine pm_iload hC 4 dX11_weighs_23 rfl ?_
      refine pm_callV (ci := 11) (as := [(0, a2), (0, a3), (0, a4)]) (st := []) hC 0 (c_X11_pose_0 a2 a3 a4 ⟨by omega, by omega⟩ ⟨by omega, by omega⟩ ⟨by omega, by omega⟩ (by omega)) lm_X11_229 li_X11_pose (by decide) (by decide) rfl rfl rfl (by decide) rfl rfl (Nat.le_of_ble_eq_true rfl) ⟨Nat.le_refl _, Or.inl rfl⟩ dX11_weighs_25 ⟨rfl, hV0⟩ (fun r13 V14 hp15 => ?_)
      obtain ⟨rfl, hV16, hF17⟩ := hp15
      change pm_J X 28 [(0, (3, 0)), (1, (0, a1)), (2, (0, a2)), (3, (0, a3)), (4, (0, a4))] [] 118 V14
      have hF18 := pm_fr.tr (pm_fr.rf (ws := [73, 74, 75, 76, 77]) (V := V0)) hF17 (by decide)
      refine pm_aload_n hC 0 (by decide) dX11_weighs_28 rfl ?_
      have e19 : V14 0 5 = 73 := hV16.one 0 5 (by decide) (by decide) rfl
      refine pm_getf (v := 73) hC 0 fl_X11_75 rfl rfl (by decide) rfl e19 dX11_weighs_29 ?_
      refine pm_iload_n hC 1 dX11_weighs_32 rfl ?_
      refine pm_callV (ci := 10) (as := [(0, a1)]) (st := []) hC 73 (c_X10_weigh_73 a1 ⟨by omega, by omega⟩) lm_X11_294 li_X10_weigh (by decide) (by decide) rfl rfl rfl (by decide) rfl rfl (Nat.le_of_ble_eq_true rfl) ⟨Nat.le_refl _, Or.inl rfl⟩ dX11_weighs_33 ⟨rfl, hV16⟩ (fun r20 V21 hp22 => ?_)
      obtain ⟨rfl, hV23, hF24⟩ := hp22
      change pm_J X 36 [(0, (3, 0)), (1, (0, a1)), (2, (0, a2)), (3, (0, a3)), (4, (0, a4))] [] 118 V21
      have hF25 := pm_fr.tr hF18 hF24 (by decide)
      have e26 : V21 0 5 = 73 := by rw [hF24 0 (by decide)]; exact e19
      refine pm_iconst (v := 1) hC dX11_weighs_36 ?_
      exact pm_iret hC hR (pm_narZ (by omega)) ⟨1, rfl, ⟨by omega, by omega, by omega⟩, hV23, hF25⟩ dX11_weighs_37
    · skip
      refine pm_iconst (v := 0) hC dX11_weighs_18 ?_
      exact pm_iret hC hR (pm_narZ (by omega)) ⟨0, rfl, ⟨by omega, by omega, by omega⟩, hV0, (pm_fr.rf (ws := [73, 74, 75, 76, 77]) (V := V0))⟩ dX11_weighs_19
set_option maxHeartbeats 4000000 in
set_option maxRecDepth 100000 in
theorem c_X11_weight_0 (a1 a2 a3 a4 a5 : Int) (h0 : (-2147483648) ≤ a1 ∧ a1 ≤ 2147483647) (h1 : (-2147483648) ≤ a2 ∧ a2 ≤ 2147483647) (h2 : (-2147483648) ≤ a3 ∧ a3 ≤ 2147483647) (h3 : (-2147483648) ≤ a4 ∧ a4 ≤ 2147483647) (h4 : (-2147483648) ≤ a5 ∧ a5 ≤ 2147483647) : pm_K 6 yX11_weight cX11_weight 7 (some .int) (fun av V => av = [(3, 0), (0, a1), (0, a2), (0, a3), (0, a4), (0, a5)] ∧ pm_ok 0 90 V) (fun _ V r V' => ∃ y, r = some (0, y) ∧ ((-2147483648) ≤ y ∧ y ≤ 2147483647) ∧ pm_ok 0 90 V' ∧ pm_fr [73, 74, 75, 76, 77] V V') := by
  refine pm_MT.of (by decide) ⟨Nat.le_refl _, by decide⟩ (fun av V h => by rw [h.1]; exact (by decide : pm_words [(3, 0), (0, 0), (0, 0), (0, 0), (0, 0), (0, 0)] ≤ 7)) ?_
  rintro X av V0 hC - hR ⟨rfl, hV0⟩
  change pm_J X 0 [(0, (3, 0)), (1, (0, a1)), (2, (0, a2)), (3, (0, a3)), (4, (0, a4)), (5, (0, a5))] [] 118 V0
  refine pm_iload hC 5 dX11_weight_0 rfl ?_
  refine pm_iconst (v := (-1)) hC dX11_weight_2 ?_
  refine pm_icmp_eq (tgt := 15) hC ⟨by omega, by omega⟩ ⟨by decide, by decide⟩ dX11_weight_3 (by decide) (fun c1 => ?_) (fun c1 => ?_)
  · skip
    refine pm_iconst (v := 1) hC dX11_weight_15 ?_
    refine pm_goto (tgt := 20) hC dX11_weight_16 (by decide) ?_
    refine pm_istore (lv' := [(6, (0, 1)), (0, (3, 0)), (1, (0, a1)), (2, (0, a2)), (3, (0, a3)), (4, (0, a4)), (5, (0, a5))]) hC dX11_weight_20 (by decide) rfl ?_
    refine pm_iload hC 0 dX11_weight_22 rfl ?_
    refine pm_if_eq (tgt := 39) hC ⟨by decide, by decide⟩ dX11_weight_24 (by decide) (fun c2 => ?_) (fun c2 => ?_)
    · skip
      exfalso; omega
    · skip
      refine pm_aload_n hC 1 (by decide) dX11_weight_27 rfl ?_
      refine pm_iload_n hC 2 dX11_weight_28 rfl ?_
      refine pm_iload_n hC 3 dX11_weight_29 rfl ?_
      refine pm_iload_n hC 4 dX11_weight_30 rfl ?_
      refine pm_iload hC 5 dX11_weight_31 rfl ?_
      refine pm_callV (ci := 11) (as := [(0, a1), (0, a2), (0, a3), (0, a4)]) (st := []) hC 0 (c_X11_weighs_0 a1 a2 a3 a4 ⟨by omega, by omega⟩ ⟨by omega, by omega⟩ ⟨by omega, by omega⟩ ⟨by omega, by omega⟩) lm_X11_201 li_X11_weighs (by decide) (by decide) rfl rfl rfl (by decide) rfl rfl (Nat.le_of_ble_eq_true rfl) ⟨Nat.le_refl _, Or.inl rfl⟩ dX11_weight_33 ⟨rfl, hV0⟩ (fun r3 V4 hp5 => ?_)
      obtain ⟨y6, rfl, b7, hV8, hF9⟩ := hp5
      change pm_J X 36 [(6, (0, 1)), (0, (3, 0)), (1, (0, a1)), (2, (0, a2)), (3, (0, a3)), (4, (0, a4)), (5, (0, a5))] [(0, y6)] 118 V4
      have hF10 := pm_fr.tr (pm_fr.rf (ws := [73, 74, 75, 76, 77]) (V := V0)) hF9 (by decide)
      refine pm_if_ne (tgt := 41) hC ⟨by omega, by omega⟩ dX11_weight_36 (by decide) (fun c11 => ?_) (fun c11 => ?_)
      · skip
        refine pm_iload hC 6 dX11_weight_41 rfl ?_
        refine pm_iconst (v := (-1)) hC dX11_weight_43 ?_
        refine pm_icmp_ne (tgt := 57) hC ⟨by omega, by omega⟩ ⟨by decide, by decide⟩ dX11_weight_44 (by decide) (fun c12 => ?_) (fun c12 => ?_)
        · skip
          exfalso; omega
        · skip
          refine pm_aload_n hC 1 (by decide) dX11_weight_47 rfl ?_
          have e13 : V4 0 5 = 73 := hV8.one 0 5 (by decide) (by decide) rfl
          refine pm_getf (v := 73) hC 0 fl_X11_75 rfl rfl (by decide) rfl e13 dX11_weight_48 ?_
          obtain ⟨y14, e15⟩ : ∃ y, V4 73 14 = y := ⟨_, rfl⟩
          have b16 := hV8.get 73 14 (lo := (-9223372036854775808)) (hi := 9223372036854775807) (by decide) (by decide) rfl
          rw [e15] at b16
          refine pm_getf (v := y14) hC 73 fl_X11_205 rfl rfl (by decide) rfl e15 dX11_weight_51 ?_
          refine pm_goto (tgt := 67) hC dX11_weight_54 (by decide) ?_
          refine pm_l2i hC dX11_weight_67 ?_
          refine pm_some hC (fun y17 b18 => ?_)
          have b18 := And.intro b18.1 b18.2
          exact pm_iret hC hR pm_nar0 ⟨y17, rfl, ⟨by omega, by omega⟩, hV8, hF10⟩ dX11_weight_68
      · skip
        refine pm_iconst (v := (-1)) hC dX11_weight_39 ?_
        exact pm_iret hC hR pm_nar0 ⟨(-1), rfl, ⟨by omega, by omega⟩, hV8, hF10⟩ dX11_weight_40
  · skip
    refine pm_aload_n hC 0 (by decide) dX11_weight_6 rfl ?_
    refine pm_iload hC 5 dX11_weight_7 rfl ?_
    refine pm_callV (ci := 11) (as := [(0, a5)]) (st := []) hC 0 (c_X11_isSound_0 a5 ⟨by omega, by omega⟩) lm_X11_142 li_X11_isSound (by decide) (by decide) rfl rfl rfl (by decide) rfl rfl (Nat.le_of_ble_eq_true rfl) ⟨Nat.le_refl _, Or.inl rfl⟩ dX11_weight_9 ⟨rfl, hV0⟩ (fun r19 V20 hp21 => ?_)
    obtain ⟨y22, rfl, b23, rfl⟩ := hp21
    change pm_J X 12 [(0, (3, 0)), (1, (0, a1)), (2, (0, a2)), (3, (0, a3)), (4, (0, a4)), (5, (0, a5))] [(0, y22)] 118 V0
    refine pm_if_eq (tgt := 19) hC ⟨by omega, by omega⟩ dX11_weight_12 (by decide) (fun c24 => ?_) (fun c24 => ?_)
    · skip
      refine pm_iconst (v := 0) hC dX11_weight_19 ?_
      refine pm_istore (lv' := [(6, (0, 0)), (0, (3, 0)), (1, (0, a1)), (2, (0, a2)), (3, (0, a3)), (4, (0, a4)), (5, (0, a5))]) hC dX11_weight_20 (by decide) rfl ?_
      refine pm_iload hC 0 dX11_weight_22 rfl ?_
      refine pm_if_eq (tgt := 39) hC ⟨by decide, by decide⟩ dX11_weight_24 (by decide) (fun c25 => ?_) (fun c25 => ?_)
      · skip
        refine pm_iconst (v := (-1)) hC dX11_weight_39 ?_
        exact pm_iret hC hR pm_nar0 ⟨(-1), rfl, ⟨by omega, by omega⟩, hV0, (pm_fr.rf (ws := [73, 74, 75, 76, 77]) (V := V0))⟩ dX11_weight_40
      · skip
        exfalso; omega
    · skip
      refine pm_iconst (v := 1) hC dX11_weight_15 ?_
      refine pm_goto (tgt := 20) hC dX11_weight_16 (by decide) ?_
      refine pm_istore (lv' := [(6, (0, 1)), (0, (3, 0)), (1, (0, a1)), (2, (0, a2)), (3, (0, a3)), (4, (0, a4)), (5, (0, a5))]) hC dX11_weight_20 (by decide) rfl ?_
      refine pm_iload hC 0 dX11_weight_22 rfl ?_
      refine pm_if_eq (tgt := 39) hC ⟨by decide, by decide⟩ dX11_weight_24 (by decide) (fun c26 => ?_) (fun c26 => ?_)
      · skip
        exfalso; omega
      · skip
        refine pm_aload_n hC 1 (by decide) dX11_weight_27 rfl ?_
        refine pm_iload_n hC 2 dX11_weight_28 rfl ?_
        refine pm_iload_n hC 3 dX11_weight_29 rfl ?_
        refine pm_iload_n hC 4 dX11_weight_30 rfl ?_
        refine pm_iload hC 5 dX11_weight_31 rfl ?_
        refine pm_callV (ci := 11) (as := [(0, a1), (0, a2), (0, a3), (0, a4)]) (st := []) hC 0 (c_X11_weighs_0 a1 a2 a3 a4 ⟨by omega, by omega⟩ ⟨by omega, by omega⟩ ⟨by omega, by omega⟩ ⟨by omega, by omega⟩) lm_X11_201 li_X11_weighs (by decide) (by decide) rfl rfl rfl (by decide) rfl rfl (Nat.le_of_ble_eq_true rfl) ⟨Nat.le_refl _, Or.inl rfl⟩ dX11_weight_33 ⟨rfl, hV0⟩ (fun r27 V28 hp29 => ?_)
        obtain ⟨y30, rfl, b31, hV32, hF33⟩ := hp29
        change pm_J X 36 [(6, (0, 1)), (0, (3, 0)), (1, (0, a1)), (2, (0, a2)), (3, (0, a3)), (4, (0, a4)), (5, (0, a5))] [(0, y30)] 118 V28
        have hF34 := pm_fr.tr (pm_fr.rf (ws := [73, 74, 75, 76, 77]) (V := V0)) hF33 (by decide)
        refine pm_if_ne (tgt := 41) hC ⟨by omega, by omega⟩ dX11_weight_36 (by decide) (fun c35 => ?_) (fun c35 => ?_)
        · skip
          refine pm_iload hC 6 dX11_weight_41 rfl ?_
          refine pm_iconst (v := (-1)) hC dX11_weight_43 ?_
          refine pm_icmp_ne (tgt := 57) hC ⟨by omega, by omega⟩ ⟨by decide, by decide⟩ dX11_weight_44 (by decide) (fun c36 => ?_) (fun c36 => ?_)
          · skip
            refine pm_aload_n hC 1 (by decide) dX11_weight_57 rfl ?_
            have e37 : V28 0 5 = 73 := hV32.one 0 5 (by decide) (by decide) rfl
            refine pm_getf (v := 73) hC 0 fl_X11_75 rfl rfl (by decide) rfl e37 dX11_weight_58 ?_
            rcases hV32.get2 73 13 (lo := 76) (hi := 77) (by decide) (by decide) rfl with e38 | e38
            · skip
              refine pm_getf (v := 76) hC 73 fl_X11_208 rfl rfl (by decide) rfl e38 dX11_weight_61 ?_
              refine pm_iload hC 6 dX11_weight_64 rfl ?_
              obtain ⟨y39, e40⟩ : ∃ y, V28 76 (a5 : Int).toNat = y := ⟨_, rfl⟩
              have b41 := hV32.get 76 (a5 : Int).toNat (lo := (-9223372036854775808)) (hi := 9223372036854775807) (by decide) (show _ < 9 by omega) rfl
              rw [e40] at b41
              refine pm_laload (len := 9) (v := y39) hC 76 rfl rfl (by decide) ⟨by omega, by omega⟩ (by decide) e40 dX11_weight_66 ?_
              refine pm_l2i hC dX11_weight_67 ?_
              refine pm_some hC (fun y42 b43 => ?_)
              have b43 := And.intro b43.1 b43.2
              exact pm_iret hC hR pm_nar0 ⟨y42, rfl, ⟨by omega, by omega⟩, hV32, hF34⟩ dX11_weight_68
            · skip
              refine pm_getf (v := 77) hC 73 fl_X11_208 rfl rfl (by decide) rfl e38 dX11_weight_61 ?_
              refine pm_iload hC 6 dX11_weight_64 rfl ?_
              obtain ⟨y44, e45⟩ : ∃ y, V28 77 (a5 : Int).toNat = y := ⟨_, rfl⟩
              have b46 := hV32.get 77 (a5 : Int).toNat (lo := (-9223372036854775808)) (hi := 9223372036854775807) (by decide) (show _ < 9 by omega) rfl
              rw [e45] at b46
              refine pm_laload (len := 9) (v := y44) hC 77 rfl rfl (by decide) ⟨by omega, by omega⟩ (by decide) e45 dX11_weight_66 ?_
              refine pm_l2i hC dX11_weight_67 ?_
              refine pm_some hC (fun y47 b48 => ?_)
              have b48 := And.intro b48.1 b48.2
              exact pm_iret hC hR pm_nar0 ⟨y47, rfl, ⟨by omega, by omega⟩, hV32, hF34⟩ dX11_weight_68
          · skip
            exfalso; omega
        · skip
          refine pm_iconst (v := (-1)) hC dX11_weight_39 ?_
          exact pm_iret hC hR pm_nar0 ⟨(-1), rfl, ⟨by omega, by omega⟩, hV32, hF34⟩ dX11_weight_40
set_option maxHeartbeats 4000000 in
set_option maxRecDepth 100000 in
theorem c_X11_ofThousand (a1 a2 : Int) (h0 : (-9223372036854775808) ≤ a1 ∧ a1 ≤ 9223372036854775807) (h1 : (-9223372036854775808) ≤ a2 ∧ a2 ≤ 9223372036854775807) : pm_K 1 yX11_ofThousand cX11_ofThousand 4 (some .int) (fun av V => av = [(1, a1), (1, a2)] ∧ pm_ok 0 90 V) (fun _ V r V' => ∃ y, r = some (0, y) ∧ ((-2147483648) ≤ y ∧ y ≤ 2147483647) ∧ V = V') := by
  refine pm_MT.of (by decide) ⟨Nat.le_refl _, by decide⟩ (fun av V h => by rw [h.1]; exact (by decide : pm_words [(1, 0), (1, 0)] ≤ 4)) ?_
  rintro X av V0 hC - hR ⟨rfl, hV0⟩
  change pm_J X 0 [(0, (1, a1)), (2, (1, a2))] [] 118 V0
  refine pm_lload_n hC 1 dX11_ofThousand_0 rfl ?_
  refine pm_lconst (x := 0) hC dX11_ofThousand_1 rfl ?_
  refine pm_lcmp hC ⟨by omega, by omega⟩ ⟨by decide, by decide⟩ dX11_ofThousand_2 (fun y1 b2 => ?_)
  refine pm_if_gt (tgt := 10) hC ⟨by omega, by omega⟩ dX11_ofThousand_3 (by decide) (fun c3 => ?_) (fun c3 => ?_)
  · skip
    refine pm_lload_n hC 0 dX11_ofThousand_10 rfl ?_
    refine pm_ldc2 (v := 1000) hC 4082 dX11_ofThousand_11 (by decide +kernel) ?_
    refine pm_lmul hC dX11_ofThousand_14 ?_
    refine pm_someL hC (fun y4 b5 => ?_)
    have b5 := And.intro b5.1 b5.2
    refine pm_lload_n hC 1 dX11_ofThousand_15 rfl ?_
    refine pm_ldivT hC ⟨by omega, by omega⟩ ⟨by omega, by omega⟩ (by omega) dX11_ofThousand_16 ?_
    refine pm_someL hC (fun y6 b7 => ?_)
    have b7 := And.intro b7.1 b7.2
    refine pm_l2i hC dX11_ofThousand_17 ?_
    refine pm_some hC (fun y8 b9 => ?_)
    have b9 := And.intro b9.1 b9.2
    exact pm_iret hC hR pm_nar0 ⟨y8, rfl, ⟨by omega, by omega⟩, rfl⟩ dX11_ofThousand_18
  · skip
    refine pm_iconst (v := 0) hC dX11_ofThousand_6 ?_
    refine pm_goto (tgt := 18) hC dX11_ofThousand_7 (by decide) ?_
    exact pm_iret hC hR pm_nar0 ⟨0, rfl, ⟨by omega, by omega⟩, rfl⟩ dX11_ofThousand_18
set_option maxHeartbeats 4000000 in
set_option maxRecDepth 100000 in
theorem c_X10_chanceOf_73 (a1 : Int) (h0 : 0 ≤ a1 ∧ a1 ≤ 8) : pm_K 2 yX10_chanceOf cX10_chanceOf 2 (some .int) (fun av V => av = [(3, 73), (0, a1)] ∧ pm_ok 0 90 V) (fun _ V r V' => ∃ y, r = some (0, y) ∧ ((-2147483648) ≤ y ∧ y ≤ 2147483647) ∧ V = V') := by
  refine pm_MT.of (by decide) ⟨Nat.le_refl _, by decide⟩ (fun av V h => by rw [h.1]; exact (by decide : pm_words [(3, 0), (0, 0)] ≤ 2)) ?_
  rintro X av V0 hC - hR ⟨rfl, hV0⟩
  change pm_J X 0 [(0, (3, 73)), (1, (0, a1))] [] 118 V0
  refine pm_aload_n hC 0 (by decide) dX10_chanceOf_0 rfl ?_
  rcases hV0.get2 73 13 (lo := 76) (hi := 77) (by decide) (by decide) rfl with e1 | e1
  · skip
    refine pm_getf (v := 76) hC 73 fl_X10_50 rfl rfl (by decide) rfl e1 dX10_chanceOf_1 ?_
    refine pm_iload_n hC 1 dX10_chanceOf_4 rfl ?_
    obtain ⟨y2, e3⟩ : ∃ y, V0 76 (a1 : Int).toNat = y := ⟨_, rfl⟩
    have b4 := hV0.get 76 (a1 : Int).toNat (lo := (-9223372036854775808)) (hi := 9223372036854775807) (by decide) (show _ < 9 by omega) rfl
    rw [e3] at b4
    refine pm_laload (len := 9) (v := y2) hC 76 rfl rfl (by decide) ⟨by omega, by omega⟩ (by decide) e3 dX10_chanceOf_5 ?_
    refine pm_aload_n hC 0 (by decide) dX10_chanceOf_6 rfl ?_
    obtain ⟨y5, e6⟩ : ∃ y, V0 73 14 = y := ⟨_, rfl⟩
    have b7 := hV0.get 73 14 (lo := (-9223372036854775808)) (hi := 9223372036854775807) (by decide) (by decide) rfl
    rw [e6] at b7
    refine pm_getf (v := y5) hC 73 fl_X10_53 rfl rfl (by decide) rfl e6 dX10_chanceOf_7 ?_
    refine pm_callSN (as := [(1, y2), (1, y5)]) (st := []) hC (c_X11_ofThousand y2 y5 ⟨by omega, by omega⟩ ⟨by omega, by omega⟩) lm_X10_141 ls_X11_ofThousand (by decide) (by decide) rfl rfl (Nat.le_of_ble_eq_true rfl) ⟨Nat.le_refl _, Or.inl rfl⟩ dX10_chanceOf_10 ⟨rfl, hV0⟩ (fun r8 V9 hp10 => ?_)
    obtain ⟨y11, rfl, b12, rfl⟩ := hp10
    change pm_J X 13 [(0, (3, 73)), (1, (0, a1))] [(0, y11)] 118 V0
    exact pm_iret hC hR pm_nar0 ⟨y11, rfl, ⟨by omega, by omega⟩, rfl⟩ dX10_chanceOf_13
  · skip
    refine pm_getf (v := 77) hC 73 fl_X10_50 rfl rfl (by decide) rfl e1 dX10_chanceOf_1 ?_
    refine pm_iload_n hC 1 dX10_chanceOf_4 rfl ?_
    obtain ⟨y13, e14⟩ : ∃ y, V0 77 (a1 : Int).toNat = y := ⟨_, rfl⟩
    have b15 := hV0.get 77 (a1 : Int).toNat (lo := (-9223372036854775808)) (hi := 9223372036854775807) (by decide) (show _ < 9 by omega) rfl
    rw [e14] at b15
    refine pm_laload (len := 9) (v := y13) hC 77 rfl rfl (by decide) ⟨by omega, by omega⟩ (by decide) e14 dX10_chanceOf_5 ?_
    refine pm_aload_n hC 0 (by decide) dX10_chanceOf_6 rfl ?_
    obtain ⟨y16, e17⟩ : ∃ y, V0 73 14 = y := ⟨_, rfl⟩
    have b18 := hV0.get 73 14 (lo := (-9223372036854775808)) (hi := 9223372036854775807) (by decide) (by decide) rfl
    rw [e17] at b18
    refine pm_getf (v := y16) hC 73 fl_X10_53 rfl rfl (by decide) rfl e17 dX10_chanceOf_7 ?_
    refine pm_callSN (as := [(1, y13), (1, y16)]) (st := []) hC (c_X11_ofThousand y13 y16 ⟨by omega, by omega⟩ ⟨by omega, by omega⟩) lm_X10_141 ls_X11_ofThousand (by decide) (by decide) rfl rfl (Nat.le_of_ble_eq_true rfl) ⟨Nat.le_refl _, Or.inl rfl⟩ dX10_chanceOf_10 ⟨rfl, hV0⟩ (fun r19 V20 hp21 => ?_)
    obtain ⟨y22, rfl, b23, rfl⟩ := hp21
    change pm_J X 13 [(0, (3, 73)), (1, (0, a1))] [(0, y22)] 118 V0
    exact pm_iret hC hR pm_nar0 ⟨y22, rfl, ⟨by omega, by omega⟩, rfl⟩ dX10_chanceOf_13
set_option maxHeartbeats 4000000 in
set_option maxRecDepth 100000 in
theorem c_X11_chance_0 (a1 a2 a3 a4 a5 : Int) (h0 : (-2147483648) ≤ a1 ∧ a1 ≤ 2147483647) (h1 : (-2147483648) ≤ a2 ∧ a2 ≤ 2147483647) (h2 : (-2147483648) ≤ a3 ∧ a3 ≤ 2147483647) (h3 : (-2147483648) ≤ a4 ∧ a4 ≤ 2147483647) (h4 : (-2147483648) ≤ a5 ∧ a5 ≤ 2147483647) : pm_K 6 yX11_chance cX11_chance 6 (some .int) (fun av V => av = [(3, 0), (0, a1), (0, a2), (0, a3), (0, a4), (0, a5)] ∧ pm_ok 0 90 V) (fun _ V r V' => ∃ y, r = some (0, y) ∧ ((-2147483648) ≤ y ∧ y ≤ 2147483647) ∧ pm_ok 0 90 V' ∧ pm_fr [73, 74, 75, 76, 77] V V') := by
  refine pm_MT.of (by decide) ⟨Nat.le_refl _, by decide⟩ (fun av V h => by rw [h.1]; exact (by decide : pm_words [(3, 0), (0, 0), (0, 0), (0, 0), (0, 0), (0, 0)] ≤ 6)) ?_
  rintro X av V0 hC - hR ⟨rfl, hV0⟩
  change pm_J X 0 [(0, (3, 0)), (1, (0, a1)), (2, (0, a2)), (3, (0, a3)), (4, (0, a4)), (5, (0, a5))] [] 118 V0
  refine pm_aload_n hC 0 (by decide) dX11_chance_0 rfl ?_
  refine pm_iload hC 5 dX11_chance_1 rfl ?_
  refine pm_callV (ci := 11) (as := [(0, a5)]) (st := []) hC 0 (c_X11_isSound_0 a5 ⟨by omega, by omega⟩) lm_X11_142 li_X11_isSound (by decide) (by decide) rfl rfl rfl (by decide) rfl rfl (Nat.le_of_ble_eq_true rfl) ⟨Nat.le_refl _, Or.inl rfl⟩ dX11_chance_3 ⟨rfl, hV0⟩ (fun r1 V2 hp3 => ?_)
  obtain ⟨y4, rfl, b5, rfl⟩ := hp3
  change pm_J X 6 [(0, (3, 0)), (1, (0, a1)), (2, (0, a2)), (3, (0, a3)), (4, (0, a4)), (5, (0, a5))] [(0, y4)] 118 V0
  refine pm_if_eq (tgt := 21) hC ⟨by omega, by omega⟩ dX11_chance_6 (by decide) (fun c6 => ?_) (fun c6 => ?_)
  · skip
    refine pm_iconst (v := (-1)) hC dX11_chance_21 ?_
    exact pm_iret hC hR pm_nar0 ⟨(-1), rfl, ⟨by omega, by omega⟩, hV0, (pm_fr.rf (ws := [73, 74, 75, 76, 77]) (V := V0))⟩ dX11_chance_22
  · skip
    refine pm_aload_n hC 0 (by decide) dX11_chance_9 rfl ?_
    refine pm_iload_n hC 1 dX11_chance_10 rfl ?_
    refine pm_iload_n hC 2 dX11_chance_11 rfl ?_
    refine pm_iload_n hC 3 dX11_chance_12 rfl ?_
    refine pm_iload hC 4 dX11_chance_13 rfl ?_
    refine pm_callV (ci := 11) (as := [(0, a1), (0, a2), (0, a3), (0, a4)]) (st := []) hC 0 (c_X11_weighs_0 a1 a2 a3 a4 ⟨by omega, by omega⟩ ⟨by omega, by omega⟩ ⟨by omega, by omega⟩ ⟨by omega, by omega⟩) lm_X11_201 li_X11_weighs (by decide) (by decide) rfl rfl rfl (by decide) rfl rfl (Nat.le_of_ble_eq_true rfl) ⟨Nat.le_refl _, Or.inl rfl⟩ dX11_chance_15 ⟨rfl, hV0⟩ (fun r7 V8 hp9 => ?_)
    obtain ⟨y10, rfl, b11, hV12, hF13⟩ := hp9
    change pm_J X 18 [(0, (3, 0)), (1, (0, a1)), (2, (0, a2)), (3, (0, a3)), (4, (0, a4)), (5, (0, a5))] [(0, y10)] 118 V8
    have hF14 := pm_fr.tr (pm_fr.rf (ws := [73, 74, 75, 76, 77]) (V := V0)) hF13 (by decide)
    refine pm_if_ne (tgt := 23) hC ⟨by omega, by omega⟩ dX11_chance_18 (by decide) (fun c15 => ?_) (fun c15 => ?_)
    · skip
      refine pm_aload_n hC 0 (by decide) dX11_chance_23 rfl ?_
      have e16 : V8 0 5 = 73 := hV12.one 0 5 (by decide) (by decide) rfl
      refine pm_getf (v := 73) hC 0 fl_X11_75 rfl rfl (by decide) rfl e16 dX11_chance_24 ?_
      refine pm_iload hC 5 dX11_chance_27 rfl ?_
      refine pm_callV (ci := 10) (as := [(0, a5)]) (st := []) hC 73 (c_X10_chanceOf_73 a5 ⟨by omega, by omega⟩) lm_X11_211 li_X10_chanceOf (by decide) (by decide) rfl rfl rfl (by decide) rfl rfl (Nat.le_of_ble_eq_true rfl) ⟨Nat.le_refl _, Or.inl rfl⟩ dX11_chance_29 ⟨rfl, hV12⟩ (fun r17 V18 hp19 => ?_)
      obtain ⟨y20, rfl, b21, rfl⟩ := hp19
      change pm_J X 32 [(0, (3, 0)), (1, (0, a1)), (2, (0, a2)), (3, (0, a3)), (4, (0, a4)), (5, (0, a5))] [(0, y20)] 118 V8
      exact pm_iret hC hR pm_nar0 ⟨y20, rfl, ⟨by omega, by omega⟩, hV12, hF14⟩ dX11_chance_32
    · skip
      refine pm_iconst (v := (-1)) hC dX11_chance_21 ?_
      exact pm_iret hC hR pm_nar0 ⟨(-1), rfl, ⟨by omega, by omega⟩, hV12, hF14⟩ dX11_chance_22
set_option maxHeartbeats 4000000 in
set_option maxRecDepth 100000 in
theorem c_X11_isKind (a1 : Int) (h0 : (-2147483648) ≤ a1 ∧ a1 ≤ 2147483647) : pm_K 1 yX11_isKind cX11_isKind 1 (some .boolean) (fun av V => av = [(0, a1)] ∧ pm_ok 0 90 V) (fun _ V r V' => ∃ y, r = some (0, y) ∧ (0 ≤ y ∧ y ≤ 1 ∧ (y = 1 → (0 ≤ a1 ∧ a1 ≤ 3))) ∧ V = V') := by
  refine pm_MT.of (by decide) ⟨Nat.le_refl _, by decide⟩ (fun av V h => by rw [h.1]; exact (by decide : pm_words [(0, 0)] ≤ 1)) ?_
  rintro X av V0 hC - hR ⟨rfl, hV0⟩
  change pm_J X 0 [(0, (0, a1))] [] 118 V0
  refine pm_iload_n hC 0 dX11_isKind_0 rfl ?_
  refine pm_if_lt (tgt := 13) hC ⟨by omega, by omega⟩ dX11_isKind_1 (by decide) (fun c1 => ?_) (fun c1 => ?_)
  · skip
    refine pm_iconst (v := 0) hC dX11_isKind_13 ?_
    exact pm_iret hC hR (pm_narZ (by omega)) ⟨0, rfl, ⟨by omega, by omega, by omega⟩, rfl⟩ dX11_isKind_14
  · skip
    refine pm_iload_n hC 0 dX11_isKind_4 rfl ?_
    refine pm_iconst (v := 3) hC dX11_isKind_5 ?_
    refine pm_icmp_gt (tgt := 13) hC ⟨by omega, by omega⟩ ⟨by decide, by decide⟩ dX11_isKind_6 (by decide) (fun c2 => ?_) (fun c2 => ?_)
    · skip
      refine pm_iconst (v := 0) hC dX11_isKind_13 ?_
      exact pm_iret hC hR (pm_narZ (by omega)) ⟨0, rfl, ⟨by omega, by omega, by omega⟩, rfl⟩ dX11_isKind_14
    · skip
      refine pm_iconst (v := 1) hC dX11_isKind_9 ?_
      refine pm_goto (tgt := 14) hC dX11_isKind_10 (by decide) ?_
      exact pm_iret hC hR (pm_narZ (by omega)) ⟨1, rfl, ⟨by omega, by omega, by omega⟩, rfl⟩ dX11_isKind_14
set_option maxHeartbeats 4000000 in
set_option maxRecDepth 100000 in
theorem c_X11_kindOfSaid (a1 a2 a3 : Int) (h0 : (-2147483648) ≤ a1 ∧ a1 ≤ 2147483647) (h1 : (-2147483648) ≤ a2 ∧ a2 ≤ 2147483647) (h2 : (-2147483648) ≤ a3 ∧ a3 ≤ 2147483647) : pm_K 1 yX11_kindOfSaid cX11_kindOfSaid 3 (some .int) (fun av V => av = [(0, a1), (0, a2), (0, a3)] ∧ pm_ok 0 90 V) (fun _ V r V' => ∃ y, r = some (0, y) ∧ (0 ≤ y ∧ y ≤ 3) ∧ V = V') := by
  refine pm_MT.of (by decide) ⟨Nat.le_refl _, by decide⟩ (fun av V h => by rw [h.1]; exact (by decide : pm_words [(0, 0), (0, 0), (0, 0)] ≤ 3)) ?_
  rintro X av V0 hC - hR ⟨rfl, hV0⟩
  change pm_J X 0 [(0, (0, a1)), (1, (0, a2)), (2, (0, a3))] [] 118 V0
  refine pm_iload_n hC 0 dX11_kindOfSaid_0 rfl ?_
  refine pm_iload_n hC 1 dX11_kindOfSaid_1 rfl ?_
  refine pm_icmp_ne (tgt := 16) hC ⟨by omega, by omega⟩ ⟨by omega, by omega⟩ dX11_kindOfSaid_2 (by decide) (fun c1 => ?_) (fun c1 => ?_)
  · skip
    refine pm_iload_n hC 2 dX11_kindOfSaid_16 rfl ?_
    refine pm_iload_n hC 0 dX11_kindOfSaid_17 rfl ?_
    refine pm_icmp_ne (tgt := 23) hC ⟨by omega, by omega⟩ ⟨by omega, by omega⟩ dX11_kindOfSaid_18 (by decide) (fun c2 => ?_) (fun c2 => ?_)
    · skip
      refine pm_iload_n hC 2 dX11_kindOfSaid_23 rfl ?_
      refine pm_iload_n hC 1 dX11_kindOfSaid_24 rfl ?_
      refine pm_icmp_ne (tgt := 32) hC ⟨by omega, by omega⟩ ⟨by omega, by omega⟩ dX11_kindOfSaid_25 (by decide) (fun c3 => ?_) (fun c3 => ?_)
      · skip
        refine pm_iconst (v := 3) hC dX11_kindOfSaid_32 ?_
        exact pm_iret hC hR pm_nar0 ⟨3, rfl, ⟨by omega, by omega⟩, rfl⟩ dX11_kindOfSaid_33
      · skip
        refine pm_iconst (v := 2) hC dX11_kindOfSaid_28 ?_
        refine pm_goto (tgt := 33) hC dX11_kindOfSaid_29 (by decide) ?_
        exact pm_iret hC hR pm_nar0 ⟨2, rfl, ⟨by omega, by omega⟩, rfl⟩ dX11_kindOfSaid_33
    · skip
      refine pm_iconst (v := 1) hC dX11_kindOfSaid_21 ?_
      exact pm_iret hC hR pm_nar0 ⟨1, rfl, ⟨by omega, by omega⟩, rfl⟩ dX11_kindOfSaid_22
  · skip
    refine pm_iload_n hC 2 dX11_kindOfSaid_5 rfl ?_
    refine pm_iload_n hC 0 dX11_kindOfSaid_6 rfl ?_
    refine pm_icmp_ne (tgt := 14) hC ⟨by omega, by omega⟩ ⟨by omega, by omega⟩ dX11_kindOfSaid_7 (by decide) (fun c4 => ?_) (fun c4 => ?_)
    · skip
      refine pm_iconst (v := 3) hC dX11_kindOfSaid_14 ?_
      exact pm_iret hC hR pm_nar0 ⟨3, rfl, ⟨by omega, by omega⟩, rfl⟩ dX11_kindOfSaid_15
    · skip
      refine pm_iconst (v := 0) hC dX11_kindOfSaid_10 ?_
      refine pm_goto (tgt := 15) hC dX11_kindOfSaid_11 (by decide) ?_
      exact pm_iret hC hR pm_nar0 ⟨0, rfl, ⟨by omega, by omega⟩, rfl⟩ dX11_kindOfSaid_15
set_option maxHeartbeats 4000000 in
set_option maxRecDepth 100000 in
theorem c_X10_chanceOfKind_73 (a1 : Int) (h0 : (-2147483648) ≤ a1 ∧ a1 ≤ 2147483647) : pm_K 2 yX10_chanceOfKind cX10_chanceOfKind 5 (some .int) (fun av V => av = [(3, 73), (0, a1)] ∧ pm_ok 0 90 V) (fun _ V r V' => ∃ y, r = some (0, y) ∧ ((-2147483648) ≤ y ∧ y ≤ 2147483647) ∧ V = V') := by
  refine pm_MT.of (by decide) ⟨Nat.le_refl _, by decide⟩ (fun av V h => by rw [h.1]; exact (by decide : pm_words [(3, 0), (0, 0)] ≤ 5)) ?_
  rintro X av V0 hC - hR ⟨rfl, hV0⟩
  change pm_J X 0 [(0, (3, 73)), (1, (0, a1))] [] 118 V0
  refine pm_lconst (x := 0) hC dX10_chanceOfKind_0 rfl ?_
  refine pm_lstore_n (lv' := [(2, (1, 0)), (0, (3, 73)), (1, (0, a1))]) hC dX10_chanceOfKind_1 (by decide) rfl ?_
  refine pm_iconst (v := 0) hC dX10_chanceOfKind_2 ?_
  refine pm_istore (lv' := [(4, (0, 0)), (2, (1, 0)), (0, (3, 73)), (1, (0, a1))]) hC dX10_chanceOfKind_3 (by decide) rfl ?_
  have L5 : ∀ (N7 : Nat) (x1 : Int) (x3 : Int), ((-9223372036854775808) ≤ x1 ∧ x1 ≤ 9223372036854775807) → (0 ≤ x3 ∧ x3 ≤ 9) → (Int.toNat (9 - x3)) = N7 → pm_J X 5 [(0, (3, 73)), (1, (0, a1)), (2, (1, x1)), (4, (0, x3))] [] 118 V0 := by
    intro N7
    induction N7 using Nat.strongRecOn with
    | _ N7 ih8 =>
    intro x1 x3 b2 b4 hm6
    refine pm_iload hC 3 dX10_chanceOfKind_5 rfl ?_
    refine pm_aload_n hC 0 (by decide) dX10_chanceOfKind_7 rfl ?_
    rcases hV0.get2 73 0 (lo := 45) (hi := 51) (by decide) (by decide) rfl with e9 | e9
    · skip
      refine pm_getf (v := 45) hC 73 fl_X10_59 rfl rfl (by decide) rfl e9 dX10_chanceOfKind_8 ?_
      obtain ⟨y10, e11⟩ : ∃ y, V0 45 0 = y := ⟨_, rfl⟩
      have b12 := hV0.get 45 0 (lo := 0) (hi := 9) (by decide) (by decide) rfl
      rw [e11] at b12
      refine pm_getf (v := y10) hC 45 fl_X10_79 rfl rfl (by decide) rfl e11 dX10_chanceOfKind_11 ?_
      refine pm_icmp_ge (tgt := 50) hC ⟨by omega, by omega⟩ ⟨by omega, by omega⟩ dX10_chanceOfKind_14 (by decide) (fun c13 => ?_) (fun c13 => ?_)
      · skip
        refine pm_lload_n hC 2 dX10_chanceOfKind_50 rfl ?_
        refine pm_aload_n hC 0 (by decide) dX10_chanceOfKind_51 rfl ?_
        obtain ⟨y14, e15⟩ : ∃ y, V0 73 14 = y := ⟨_, rfl⟩
        have b16 := hV0.get 73 14 (lo := (-9223372036854775808)) (hi := 9223372036854775807) (by decide) (by decide) rfl
        rw [e15] at b16
        refine pm_getf (v := y14) hC 73 fl_X10_53 rfl rfl (by decide) rfl e15 dX10_chanceOfKind_52 ?_
        refine pm_callSN (as := [(1, x1), (1, y14)]) (st := []) hC (c_X11_ofThousand x1 y14 ⟨by omega, by omega⟩ ⟨by omega, by omega⟩) lm_X10_141 ls_X11_ofThousand (by decide) (by decide) rfl rfl (Nat.le_of_ble_eq_true rfl) ⟨Nat.le_refl _, Or.inl rfl⟩ dX10_chanceOfKind_55 ⟨rfl, hV0⟩ (fun r17 V18 hp19 => ?_)
        obtain ⟨y20, rfl, b21, rfl⟩ := hp19
        change pm_J X 58 [(0, (3, 73)), (1, (0, a1)), (2, (1, x1)), (4, (0, x3))] [(0, y20)] 118 V0
        exact pm_iret hC hR pm_nar0 ⟨y20, rfl, ⟨by omega, by omega⟩, rfl⟩ dX10_chanceOfKind_58
      · skip
        refine pm_aload_n hC 0 (by decide) dX10_chanceOfKind_17 rfl ?_
        obtain ⟨y22, e23⟩ : ∃ y, V0 73 1 = y := ⟨_, rfl⟩
        have b24 := hV0.get 73 1 (lo := 0) (hi := 8) (by decide) (by decide) rfl
        rw [e23] at b24
        refine pm_getf (v := y22) hC 73 fl_X10_9 rfl rfl (by decide) rfl e23 dX10_chanceOfKind_18 ?_
        refine pm_aload_n hC 0 (by decide) dX10_chanceOfKind_21 rfl ?_
        obtain ⟨y25, e26⟩ : ∃ y, V0 73 2 = y := ⟨_, rfl⟩
        have b27 := hV0.get 73 2 (lo := 0) (hi := 8) (by decide) (by decide) rfl
        rw [e26] at b27
        refine pm_getf (v := y25) hC 73 fl_X10_15 rfl rfl (by decide) rfl e26 dX10_chanceOfKind_22 ?_
        refine pm_iload hC 3 dX10_chanceOfKind_25 rfl ?_
        refine pm_callSN (as := [(0, y22), (0, y25), (0, x3)]) (st := []) hC (c_X11_kindOfSaid y22 y25 x3 ⟨by omega, by omega⟩ ⟨by omega, by omega⟩ ⟨by omega, by omega⟩) lm_X10_145 ls_X11_kindOfSaid (by decide) (by decide) rfl rfl (Nat.le_of_ble_eq_true rfl) ⟨Nat.le_refl _, Or.inl rfl⟩ dX10_chanceOfKind_27 ⟨rfl, hV0⟩ (fun r28 V29 hp30 => ?_)
        obtain ⟨y31, rfl, b32, rfl⟩ := hp30
        change pm_J X 30 [(0, (3, 73)), (1, (0, a1)), (2, (1, x1)), (4, (0, x3))] [(0, y31)] 118 V0
        refine pm_iload_n hC 1 dX10_chanceOfKind_30 rfl ?_
        refine pm_icmp_ne (tgt := 44) hC ⟨by omega, by omega⟩ ⟨by omega, by omega⟩ dX10_chanceOfKind_31 (by decide) (fun c33 => ?_) (fun c33 => ?_)
        · skip
          obtain ⟨x34, ei35⟩ : ∃ y : Int, x3 + 1 = y := ⟨_, rfl⟩
          refine pm_iinc (y := x34) (lv' := [(4, (0, x34)), (0, (3, 73)), (1, (0, a1)), (2, (1, x1))]) hC 3 dX10_chanceOfKind_44 (by decide) rfl ei35 rfl ?_
          refine pm_goto (tgt := 5) hC dX10_chanceOfKind_47 (by decide) ?_
          refine pm_lvsub [1, 2, 3, 0] (lv' := [(0, (3, 73)), (1, (0, a1)), (2, (1, x1)), (4, (0, x34))]) rfl ?_
          exact ih8 _ (by omega) x1 x34 ⟨by omega, by omega⟩ ⟨by omega, by omega⟩ rfl
        · skip
          refine pm_lload_n hC 2 dX10_chanceOfKind_34 rfl ?_
          refine pm_aload_n hC 0 (by decide) dX10_chanceOfKind_35 rfl ?_
          rcases hV0.get2 73 13 (lo := 76) (hi := 77) (by decide) (by decide) rfl with e36 | e36
          · skip
            refine pm_getf (v := 76) hC 73 fl_X10_50 rfl rfl (by decide) rfl e36 dX10_chanceOfKind_36 ?_
            refine pm_iload hC 3 dX10_chanceOfKind_39 rfl ?_
            obtain ⟨y37, e38⟩ : ∃ y, V0 76 (x3 : Int).toNat = y := ⟨_, rfl⟩
            have b39 := hV0.get 76 (x3 : Int).toNat (lo := (-9223372036854775808)) (hi := 9223372036854775807) (by decide) (show _ < 9 by omega) rfl
            rw [e38] at b39
            refine pm_laload (len := 9) (v := y37) hC 76 rfl rfl (by decide) ⟨by omega, by omega⟩ (by decide) e38 dX10_chanceOfKind_41 ?_
            refine pm_ladd hC dX10_chanceOfKind_42 ?_
            refine pm_someL hC (fun y40 b41 => ?_)
            have b41 := And.intro b41.1 b41.2
            refine pm_lstore_n (lv' := [(2, (1, y40)), (0, (3, 73)), (1, (0, a1)), (4, (0, x3))]) hC dX10_chanceOfKind_43 (by decide) rfl ?_
            obtain ⟨x42, ei43⟩ : ∃ y : Int, x3 + 1 = y := ⟨_, rfl⟩
            refine pm_iinc (y := x42) (lv' := [(4, (0, x42)), (2, (1, y40)), (0, (3, 73)), (1, (0, a1))]) hC 3 dX10_chanceOfKind_44 (by decide) rfl ei43 rfl ?_
            refine pm_goto (tgt := 5) hC dX10_chanceOfKind_47 (by decide) ?_
            refine pm_lvsub [2, 3, 1, 0] (lv' := [(0, (3, 73)), (1, (0, a1)), (2, (1, y40)), (4, (0, x42))]) rfl ?_
            exact ih8 _ (by omega) y40 x42 ⟨by omega, by omega⟩ ⟨by omega, by omega⟩ rfl
          · skip
            refine pm_getf (v := 77) hC 73 fl_X10_50 rfl rfl (by decide) rfl e36 dX10_chanceOfKind_36 ?_
            refine pm_iload hC 3 dX10_chanceOfKind_39 rfl ?_
            obtain ⟨y44, e45⟩ : ∃ y, V0 77 (x3 : Int).toNat = y := ⟨_, rfl⟩
            have b46 := hV0.get 77 (x3 : Int).toNat (lo := (-9223372036854775808)) (hi := 9223372036854775807) (by decide) (show _ < 9 by omega) rfl
            rw [e45] at b46
            refine pm_laload (len := 9) (v := y44) hC 77 rfl rfl (by decide) ⟨by omega, by omega⟩ (by decide) e45 dX10_chanceOfKind_41 ?_
            refine pm_ladd hC dX10_chanceOfKind_42 ?_
            refine pm_someL hC (fun y47 b48 => ?_)
            have b48 := And.intro b48.1 b48.2
            refine pm_lstore_n (lv' := [(2, (1, y47)), (0, (3, 73)), (1, (0, a1)), (4, (0, x3))]) hC dX10_chanceOfKind_43 (by decide) rfl ?_
            obtain ⟨x49, ei50⟩ : ∃ y : Int, x3 + 1 = y := ⟨_, rfl⟩
            refine pm_iinc (y := x49) (lv' := [(4, (0, x49)), (2, (1, y47)), (0, (3, 73)), (1, (0, a1))]) hC 3 dX10_chanceOfKind_44 (by decide) rfl ei50 rfl ?_
            refine pm_goto (tgt := 5) hC dX10_chanceOfKind_47 (by decide) ?_
            refine pm_lvsub [2, 3, 1, 0] (lv' := [(0, (3, 73)), (1, (0, a1)), (2, (1, y47)), (4, (0, x49))]) rfl ?_
            exact ih8 _ (by omega) y47 x49 ⟨by omega, by omega⟩ ⟨by omega, by omega⟩ rfl
    · skip
      refine pm_getf (v := 51) hC 73 fl_X10_59 rfl rfl (by decide) rfl e9 dX10_chanceOfKind_8 ?_
      obtain ⟨y51, e52⟩ : ∃ y, V0 51 0 = y := ⟨_, rfl⟩
      have b53 := hV0.get 51 0 (lo := 0) (hi := 9) (by decide) (by decide) rfl
      rw [e52] at b53
      refine pm_getf (v := y51) hC 51 fl_X10_79 rfl rfl (by decide) rfl e52 dX10_chanceOfKind_11 ?_
      refine pm_icmp_ge (tgt := 50) hC ⟨by omega, by omega⟩ ⟨by omega, by omega⟩ dX10_chanceOfKind_14 (by decide) (fun c54 => ?_) (fun c54 => ?_)
      · skip
        refine pm_lload_n hC 2 dX10_chanceOfKind_50 rfl ?_
        refine pm_aload_n hC 0 (by decide) dX10_chanceOfKind_51 rfl ?_
        obtain ⟨y55, e56⟩ : ∃ y, V0 73 14 = y := ⟨_, rfl⟩
        have b57 := hV0.get 73 14 (lo := (-9223372036854775808)) (hi := 9223372036854775807) (by decide) (by decide) rfl
        rw [e56] at b57
        refine pm_getf (v := y55) hC 73 fl_X10_53 rfl rfl (by decide) rfl e56 dX10_chanceOfKind_52 ?_
        refine pm_callSN (as := [(1, x1), (1, y55)]) (st := []) hC (c_X11_ofThousand x1 y55 ⟨by omega, by omega⟩ ⟨by omega, by omega⟩) lm_X10_141 ls_X11_ofThousand (by decide) (by decide) rfl rfl (Nat.le_of_ble_eq_true rfl) ⟨Nat.le_refl _, Or.inl rfl⟩ dX10_chanceOfKind_55 ⟨rfl, hV0⟩ (fun r58 V59 hp60 => ?_)
        obtain ⟨y61, rfl, b62, rfl⟩ := hp60
        change pm_J X 58 [(0, (3, 73)), (1, (0, a1)), (2, (1, x1)), (4, (0, x3))] [(0, y61)] 118 V0
        exact pm_iret hC hR pm_nar0 ⟨y61, rfl, ⟨by omega, by omega⟩, rfl⟩ dX10_chanceOfKind_58
      · skip
        refine pm_aload_n hC 0 (by decide) dX10_chanceOfKind_17 rfl ?_
        obtain ⟨y63, e64⟩ : ∃ y, V0 73 1 = y := ⟨_, rfl⟩
        have b65 := hV0.get 73 1 (lo := 0) (hi := 8) (by decide) (by decide) rfl
        rw [e64] at b65
        refine pm_getf (v := y63) hC 73 fl_X10_9 rfl rfl (by decide) rfl e64 dX10_chanceOfKind_18 ?_
        refine pm_aload_n hC 0 (by decide) dX10_chanceOfKind_21 rfl ?_
        obtain ⟨y66, e67⟩ : ∃ y, V0 73 2 = y := ⟨_, rfl⟩
        have b68 := hV0.get 73 2 (lo := 0) (hi := 8) (by decide) (by decide) rfl
        rw [e67] at b68
        refine pm_getf (v := y66) hC 73 fl_X10_15 rfl rfl (by decide) rfl e67 dX10_chanceOfKind_22 ?_
        refine pm_iload hC 3 dX10_chanceOfKind_25 rfl ?_
        refine pm_callSN (as := [(0, y63), (0, y66), (0, x3)]) (st := []) hC (c_X11_kindOfSaid y63 y66 x3 ⟨by omega, by omega⟩ ⟨by omega, by omega⟩ ⟨by omega, by omega⟩) lm_X10_145 ls_X11_kindOfSaid (by decide) (by decide) rfl rfl (Nat.le_of_ble_eq_true rfl) ⟨Nat.le_refl _, Or.inl rfl⟩ dX10_chanceOfKind_27 ⟨rfl, hV0⟩ (fun r69 V70 hp71 => ?_)
        obtain ⟨y72, rfl, b73, rfl⟩ := hp71
        change pm_J X 30 [(0, (3, 73)), (1, (0, a1)), (2, (1, x1)), (4, (0, x3))] [(0, y72)] 118 V0
        refine pm_iload_n hC 1 dX10_chanceOfKind_30 rfl ?_
        refine pm_icmp_ne (tgt := 44) hC ⟨by omega, by omega⟩ ⟨by omega, by omega⟩ dX10_chanceOfKind_31 (by decide) (fun c74 => ?_) (fun c74 => ?_)
        · skip
          obtain ⟨x75, ei76⟩ : ∃ y : Int, x3 + 1 = y := ⟨_, rfl⟩
          refine pm_iinc (y := x75) (lv' := [(4, (0, x75)), (0, (3, 73)), (1, (0, a1)), (2, (1, x1))]) hC 3 dX10_chanceOfKind_44 (by decide) rfl ei76 rfl ?_
          refine pm_goto (tgt := 5) hC dX10_chanceOfKind_47 (by decide) ?_
          refine pm_lvsub [1, 2, 3, 0] (lv' := [(0, (3, 73)), (1, (0, a1)), (2, (1, x1)), (4, (0, x75))]) rfl ?_
          exact ih8 _ (by omega) x1 x75 ⟨by omega, by omega⟩ ⟨by omega, by omega⟩ rfl
        · skip
          refine pm_lload_n hC 2 dX10_chanceOfKind_34 rfl ?_
          refine pm_aload_n hC 0 (by decide) dX10_chanceOfKind_35 rfl ?_
          rcases hV0.get2 73 13 (lo := 76) (hi := 77) (by decide) (by decide) rfl with e77 | e77
          · skip
            refine pm_getf (v := 76) hC 73 fl_X10_50 rfl rfl (by decide) rfl e77 dX10_chanceOfKind_36 ?_
            refine pm_iload hC 3 dX10_chanceOfKind_39 rfl ?_
            obtain ⟨y78, e79⟩ : ∃ y, V0 76 (x3 : Int).toNat = y := ⟨_, rfl⟩
            have b80 := hV0.get 76 (x3 : Int).toNat (lo := (-9223372036854775808)) (hi := 9223372036854775807) (by decide) (show _ < 9 by omega) rfl
            rw [e79] at b80
            refine pm_laload (len := 9) (v := y78) hC 76 rfl rfl (by decide) ⟨by omega, by omega⟩ (by decide) e79 dX10_chanceOfKind_41 ?_
            refine pm_ladd hC dX10_chanceOfKind_42 ?_
            refine pm_someL hC (fun y81 b82 => ?_)
            have b82 := And.intro b82.1 b82.2
            refine pm_lstore_n (lv' := [(2, (1, y81)), (0, (3, 73)), (1, (0, a1)), (4, (0, x3))]) hC dX10_chanceOfKind_43 (by decide) rfl ?_
            obtain ⟨x83, ei84⟩ : ∃ y : Int, x3 + 1 = y := ⟨_, rfl⟩
            refine pm_iinc (y := x83) (lv' := [(4, (0, x83)), (2, (1, y81)), (0, (3, 73)), (1, (0, a1))]) hC 3 dX10_chanceOfKind_44 (by decide) rfl ei84 rfl ?_
            refine pm_goto (tgt := 5) hC dX10_chanceOfKind_47 (by decide) ?_
            refine pm_lvsub [2, 3, 1, 0] (lv' := [(0, (3, 73)), (1, (0, a1)), (2, (1, y81)), (4, (0, x83))]) rfl ?_
            exact ih8 _ (by omega) y81 x83 ⟨by omega, by omega⟩ ⟨by omega, by omega⟩ rfl
          · skip
            refine pm_getf (v := 77) hC 73 fl_X10_50 rfl rfl (by decide) rfl e77 dX10_chanceOfKind_36 ?_
            refine pm_iload hC 3 dX10_chanceOfKind_39 rfl ?_
            obtain ⟨y85, e86⟩ : ∃ y, V0 77 (x3 : Int).toNat = y := ⟨_, rfl⟩
            have b87 := hV0.get 77 (x3 : Int).toNat (lo := (-9223372036854775808)) (hi := 9223372036854775807) (by decide) (show _ < 9 by omega) rfl
            rw [e86] at b87
            refine pm_laload (len := 9) (v := y85) hC 77 rfl rfl (by decide) ⟨by omega, by omega⟩ (by decide) e86 dX10_chanceOfKind_41 ?_
            refine pm_ladd hC dX10_chanceOfKind_42 ?_
            refine pm_someL hC (fun y88 b89 => ?_)
            have b89 := And.intro b89.1 b89.2
            refine pm_lstore_n (lv' := [(2, (1, y88)), (0, (3, 73)), (1, (0, a1)), (4, (0, x3))]) hC dX10_chanceOfKind_43 (by decide) rfl ?_
            obtain ⟨x90, ei91⟩ : ∃ y : Int, x3 + 1 = y := ⟨_, rfl⟩
            refine pm_iinc (y := x90) (lv' := [(4, (0, x90)), (2, (1, y88)), (0, (3, 73)), (1, (0, a1))]) hC 3 dX10_chanceOfKind_44 (by decide) rfl ei91 rfl ?_
            refine pm_goto (tgt := 5) hC dX10_chanceOfKind_47 (by decide) ?_
            refine pm_lvsub [2, 3, 1, 0] (lv' := [(0, (3, 73)), (1, (0, a1)), (2, (1, y88)), (4, (0, x90))]) rfl ?_
            exact ih8 _ (by omega) y88 x90 ⟨by omega, by omega⟩ ⟨by omega, by omega⟩ rfl
  refine pm_lvsub [2, 3, 1, 0] (lv' := [(0, (3, 73)), (1, (0, a1)), (2, (1, 0)), (4, (0, 0))]) rfl ?_
  exact L5 _ 0 0 ⟨by decide, by decide⟩ ⟨by decide, by decide⟩ rfl
set_option maxHeartbeats 4000000 in
set_option maxRecDepth 100000 in
theorem c_X11_kind_0 (a1 a2 a3 a4 a5 : Int) (h0 : (-2147483648) ≤ a1 ∧ a1 ≤ 2147483647) (h1 : (-2147483648) ≤ a2 ∧ a2 ≤ 2147483647) (h2 : (-2147483648) ≤ a3 ∧ a3 ≤ 2147483647) (h3 : (-2147483648) ≤ a4 ∧ a4 ≤ 2147483647) (h4 : (-2147483648) ≤ a5 ∧ a5 ≤ 2147483647) : pm_K 6 yX11_kind cX11_kind 6 (some .int) (fun av V => av = [(3, 0), (0, a1), (0, a2), (0, a3), (0, a4), (0, a5)] ∧ pm_ok 0 90 V) (fun _ V r V' => ∃ y, r = some (0, y) ∧ ((-2147483648) ≤ y ∧ y ≤ 2147483647) ∧ pm_ok 0 90 V' ∧ pm_fr [73, 74, 75, 76, 77] V V') := by
  refine pm_MT.of (by decide) ⟨Nat.le_refl _, by decide⟩ (fun av V h => by rw [h.1]; exact (by decide : pm_words [(3, 0), (0, 0), (0, 0), (0, 0), (0, 0), (0, 0)] ≤ 6)) ?_
  rintro X av V0 hC - hR ⟨rfl, hV0⟩
  change pm_J X 0 [(0, (3, 0)), (1, (0, a1)), (2, (0, a2)), (3, (0, a3)), (4, (0, a4)), (5, (0, a5))] [] 118 V0
  refine pm_iload hC 5 dX11_kind_0 rfl ?_
  refine pm_callS (as := [(0, a5)]) (st := []) hC (c_X11_isKind a5 ⟨by omega, by omega⟩) lm_X11_215 ls_X11_isKind (by decide) (by decide) rfl rfl (Nat.le_of_ble_eq_true rfl) ⟨Nat.le_refl _, Or.inl rfl⟩ dX11_kind_2 ⟨rfl, hV0⟩ (fun r1 V2 hp3 => ?_)
  obtain ⟨y4, rfl, b5, rfl⟩ := hp3
  change pm_J X 5 [(0, (3, 0)), (1, (0, a1)), (2, (0, a2)), (3, (0, a3)), (4, (0, a4)), (5, (0, a5))] [(0, y4)] 118 V0
  refine pm_if_eq (tgt := 20) hC ⟨by omega, by omega⟩ dX11_kind_5 (by decide) (fun c6 => ?_) (fun c6 => ?_)
  · skip
    refine pm_iconst (v := (-1)) hC dX11_kind_20 ?_
    exact pm_iret hC hR pm_nar0 ⟨(-1), rfl, ⟨by omega, by omega⟩, hV0, (pm_fr.rf (ws := [73, 74, 75, 76, 77]) (V := V0))⟩ dX11_kind_21
  · skip
    refine pm_aload_n hC 0 (by decide) dX11_kind_8 rfl ?_
    refine pm_iload_n hC 1 dX11_kind_9 rfl ?_
    refine pm_iload_n hC 2 dX11_kind_10 rfl ?_
    refine pm_iload_n hC 3 dX11_kind_11 rfl ?_
    refine pm_iload hC 4 dX11_kind_12 rfl ?_
    refine pm_callV (ci := 11) (as := [(0, a1), (0, a2), (0, a3), (0, a4)]) (st := []) hC 0 (c_X11_weighs_0 a1 a2 a3 a4 ⟨by omega, by omega⟩ ⟨by omega, by omega⟩ ⟨by omega, by omega⟩ ⟨by omega, by omega⟩) lm_X11_201 li_X11_weighs (by decide) (by decide) rfl rfl rfl (by decide) rfl rfl (Nat.le_of_ble_eq_true rfl) ⟨Nat.le_refl _, Or.inl rfl⟩ dX11_kind_14 ⟨rfl, hV0⟩ (fun r7 V8 hp9 => ?_)
    obtain ⟨y10, rfl, b11, hV12, hF13⟩ := hp9
    change pm_J X 17 [(0, (3, 0)), (1, (0, a1)), (2, (0, a2)), (3, (0, a3)), (4, (0, a4)), (5, (0, a5))] [(0, y10)] 118 V8
    have hF14 := pm_fr.tr (pm_fr.rf (ws := [73, 74, 75, 76, 77]) (V := V0)) hF13 (by decide)
    refine pm_if_ne (tgt := 22) hC ⟨by omega, by omega⟩ dX11_kind_17 (by decide) (fun c15 => ?_) (fun c15 => ?_)
    · skip
      refine pm_aload_n hC 0 (by decide) dX11_kind_22 rfl ?_
      have e16 : V8 0 5 = 73 := hV12.one 0 5 (by decide) (by decide) rfl
      refine pm_getf (v := 73) hC 0 fl_X11_75 rfl rfl (by decide) rfl e16 dX11_kind_23 ?_
      refine pm_iload hC 5 dX11_kind_26 rfl ?_
      refine pm_callV (ci := 10) (as := [(0, a5)]) (st := []) hC 73 (c_X10_chanceOfKind_73 a5 ⟨by omega, by omega⟩) lm_X11_218 li_X10_chanceOfKind (by decide) (by decide) rfl rfl rfl (by decide) rfl rfl (Nat.le_of_ble_eq_true rfl) ⟨Nat.le_refl _, Or.inl rfl⟩ dX11_kind_28 ⟨rfl, hV12⟩ (fun r17 V18 hp19 => ?_)
      obtain ⟨y20, rfl, b21, rfl⟩ := hp19
      change pm_J X 31 [(0, (3, 0)), (1, (0, a1)), (2, (0, a2)), (3, (0, a3)), (4, (0, a4)), (5, (0, a5))] [(0, y20)] 118 V8
      exact pm_iret hC hR pm_nar0 ⟨y20, rfl, ⟨by omega, by omega⟩, hV12, hF14⟩ dX11_kind_31
    · skip
      refine pm_iconst (v := (-1)) hC dX11_kind_20 ?_
      exact pm_iret hC hR pm_nar0 ⟨(-1), rfl, ⟨by omega, by omega⟩, hV12, hF14⟩ dX11_kind_21
set_option maxHeartbeats 4000000 in
set_option maxRecDepth 100000 in
theorem c_X11_likely_0 (a1 a2 a3 a4 : Int) (h0 : (-2147483648) ≤ a1 ∧ a1 ≤ 2147483647) (h1 : (-2147483648) ≤ a2 ∧ a2 ≤ 2147483647) (h2 : (-2147483648) ≤ a3 ∧ a3 ≤ 2147483647) (h3 : (-2147483648) ≤ a4 ∧ a4 ≤ 2147483647) : pm_K 6 yX11_likely cX11_likely 5 (some .int) (fun av V => av = [(3, 0), (0, a1), (0, a2), (0, a3), (0, a4)] ∧ pm_ok 0 90 V) (fun _ V r V' => ∃ y, r = some (0, y) ∧ ((-1) ≤ y ∧ y ≤ 8) ∧ pm_ok 0 90 V' ∧ pm_fr [73, 74, 75, 76, 77] V V') := by
  refine pm_MT.of (by decide) ⟨Nat.le_refl _, by decide⟩ (fun av V h => by rw [h.1]; exact (by decide : pm_words [(3, 0), (0, 0), (0, 0), (0, 0), (0, 0)] ≤ 5)) ?_
  rintro X av V0 hC - hR ⟨rfl, hV0⟩
  change pm_J X 0 [(0, (3, 0)), (1, (0, a1)), (2, (0, a2)), (3, (0, a3)), (4, (0, a4))] [] 118 V0
  refine pm_aload_n hC 0 (by decide) dX11_likely_0 rfl ?_
  refine pm_iload_n hC 1 dX11_likely_1 rfl ?_
  refine pm_iload_n hC 2 dX11_likely_2 rfl ?_
  refine pm_iload_n hC 3 dX11_likely_3 rfl ?_
  refine pm_iload hC 4 dX11_likely_4 rfl ?_
  refine pm_callV (ci := 11) (as := [(0, a1), (0, a2), (0, a3), (0, a4)]) (st := []) hC 0 (c_X11_weighs_0 a1 a2 a3 a4 ⟨by omega, by omega⟩ ⟨by omega, by omega⟩ ⟨by omega, by omega⟩ ⟨by omega, by omega⟩) lm_X11_201 li_X11_weighs (by decide) (by decide) rfl rfl rfl (by decide) rfl rfl (Nat.le_of_ble_eq_true rfl) ⟨Nat.le_refl _, Or.inl rfl⟩ dX11_likely_6 ⟨rfl, hV0⟩ (fun r1 V2 hp3 => ?_)
  obtain ⟨y4, rfl, b5, hV6, hF7⟩ := hp3
  change pm_J X 9 [(0, (3, 0)), (1, (0, a1)), (2, (0, a2)), (3, (0, a3)), (4, (0, a4))] [(0, y4)] 118 V2
  have hF8 := pm_fr.tr (pm_fr.rf (ws := [73, 74, 75, 76, 77]) (V := V0)) hF7 (by decide)
  refine pm_if_ne (tgt := 14) hC ⟨by omega, by omega⟩ dX11_likely_9 (by decide) (fun c9 => ?_) (fun c9 => ?_)
  · skip
    refine pm_aload_n hC 0 (by decide) dX11_likely_14 rfl ?_
    have e10 : V2 0 5 = 73 := hV6.one 0 5 (by decide) (by decide) rfl
    refine pm_getf (v := 73) hC 0 fl_X11_75 rfl rfl (by decide) rfl e10 dX11_likely_15 ?_
    refine pm_callV (ci := 10) (as := []) (st := []) hC 73 c_X10_mostLikely_73 lm_X11_221 li_X10_mostLikely (by decide) (by decide) rfl rfl rfl (by decide) rfl rfl (Nat.le_of_ble_eq_true rfl) ⟨Nat.le_refl _, Or.inl rfl⟩ dX11_likely_18 ⟨rfl, hV6⟩ (fun r11 V12 hp13 => ?_)
    obtain ⟨y14, rfl, b15, rfl⟩ := hp13
    change pm_J X 21 [(0, (3, 0)), (1, (0, a1)), (2, (0, a2)), (3, (0, a3)), (4, (0, a4))] [(0, y14)] 118 V2
    exact pm_iret hC hR pm_nar0 ⟨y14, rfl, ⟨by omega, by omega⟩, hV6, hF8⟩ dX11_likely_21
  · skip
    refine pm_iconst (v := (-1)) hC dX11_likely_12 ?_
    exact pm_iret hC hR pm_nar0 ⟨(-1), rfl, ⟨by omega, by omega⟩, hV6, hF8⟩ dX11_likely_13
set_option maxHeartbeats 4000000 in
set_option maxRecDepth 100000 in
theorem c_X10_chanceNoticed_73  : pm_K 2 yX10_chanceNoticed cX10_chanceNoticed 5 (some .int) (fun av V => av = [(3, 73)] ∧ pm_ok 0 90 V) (fun _ V r V' => ∃ y, r = some (0, y) ∧ ((-2147483648) ≤ y ∧ y ≤ 2147483647) ∧ V = V') := by
  refine pm_MT.of (by decide) ⟨Nat.le_refl _, by decide⟩ (fun av V h => by rw [h.1]; exact (by decide : pm_words [(3, 0)] ≤ 5)) ?_
  rintro X av V0 hC - hR ⟨rfl, hV0⟩
  change pm_J X 0 [(0, (3, 73))] [] 118 V0
  refine pm_aload_n hC 0 (by decide) dX10_chanceNoticed_0 rfl ?_
  obtain ⟨y1, e2⟩ : ∃ y, V0 73 7 = y := ⟨_, rfl⟩
  have b3 := hV0.get 73 7 (lo := (-9223372036854775808)) (hi := 9223372036854775807) (by decide) (by decide) rfl
  rw [e2] at b3
  refine pm_getf (v := y1) hC 73 fl_X10_30 rfl rfl (by decide) rfl e2 dX10_chanceNoticed_1 ?_
  refine pm_aload_n hC 0 (by decide) dX10_chanceNoticed_4 rfl ?_
  rcases hV0.get2 73 0 (lo := 45) (hi := 51) (by decide) (by decide) rfl with e4 | e4
  · skip
    refine pm_getf (v := 45) hC 73 fl_X10_59 rfl rfl (by decide) rfl e4 dX10_chanceNoticed_5 ?_
    obtain ⟨y5, e6⟩ : ∃ y, V0 45 0 = y := ⟨_, rfl⟩
    have b7 := hV0.get 45 0 (lo := 0) (hi := 9) (by decide) (by decide) rfl
    rw [e6] at b7
    refine pm_getf (v := y5) hC 45 fl_X10_79 rfl rfl (by decide) rfl e6 dX10_chanceNoticed_8 ?_
    refine pm_i2l hC ⟨by omega, by omega⟩ dX10_chanceNoticed_11 ?_
    refine pm_lmul hC dX10_chanceNoticed_12 ?_
    refine pm_someL hC (fun y8 b9 => ?_)
    have b9 := And.intro b9.1 b9.2
    refine pm_aload_n hC 0 (by decide) dX10_chanceNoticed_13 rfl ?_
    obtain ⟨y10, e11⟩ : ∃ y, V0 73 12 = y := ⟨_, rfl⟩
    have b12 := hV0.get 73 12 (lo := (-9223372036854775808)) (hi := 9223372036854775807) (by decide) (by decide) rfl
    rw [e11] at b12
    refine pm_getf (v := y10) hC 73 fl_X10_47 rfl rfl (by decide) rfl e11 dX10_chanceNoticed_14 ?_
    refine pm_lmul hC dX10_chanceNoticed_17 ?_
    refine pm_someL hC (fun y13 b14 => ?_)
    have b14 := And.intro b14.1 b14.2
    refine pm_lstore_n (lv' := [(1, (1, y13)), (0, (3, 73))]) hC dX10_chanceNoticed_18 (by decide) rfl ?_
    refine pm_ldc2 (v := 16) hC 4057 dX10_chanceNoticed_19 (by decide +kernel) ?_
    refine pm_aload_n hC 1 (by decide) dX10_chanceNoticed_22 rfl ?_
    refine pm_getf (v := y1) hC 73 fl_X10_30 rfl rfl (by decide) rfl e2 dX10_chanceNoticed_23 ?_
    refine pm_lsub hC dX10_chanceNoticed_26 ?_
    refine pm_someL hC (fun y15 b16 => ?_)
    have b16 := And.intro b16.1 b16.2
    refine pm_aload_n hC 1 (by decide) dX10_chanceNoticed_27 rfl ?_
    obtain ⟨y17, e18⟩ : ∃ y, V0 73 10 = y := ⟨_, rfl⟩
    have b19 := hV0.get 73 10 (lo := (-9223372036854775808)) (hi := 9223372036854775807) (by decide) (by decide) rfl
    rw [e18] at b19
    refine pm_getf (v := y17) hC 73 fl_X10_41 rfl rfl (by decide) rfl e18 dX10_chanceNoticed_28 ?_
    refine pm_lmul hC dX10_chanceNoticed_31 ?_
    refine pm_someL hC (fun y20 b21 => ?_)
    have b21 := And.intro b21.1 b21.2
    refine pm_aload_n hC 1 (by decide) dX10_chanceNoticed_32 rfl ?_
    obtain ⟨y22, e23⟩ : ∃ y, V0 73 11 = y := ⟨_, rfl⟩
    have b24 := hV0.get 73 11 (lo := (-9223372036854775808)) (hi := 9223372036854775807) (by decide) (by decide) rfl
    rw [e23] at b24
    refine pm_getf (v := y22) hC 73 fl_X10_44 rfl rfl (by decide) rfl e23 dX10_chanceNoticed_33 ?_
    refine pm_lmul hC dX10_chanceNoticed_36 ?_
    refine pm_someL hC (fun y25 b26 => ?_)
    have b26 := And.intro b26.1 b26.2
    refine pm_lstore_n (lv' := [(3, (1, y25)), (1, (1, y13)), (0, (3, 73))]) hC dX10_chanceNoticed_37 (by decide) rfl ?_
    refine pm_lload_n hC 1 dX10_chanceNoticed_38 rfl ?_
    refine pm_lload_n hC 0 dX10_chanceNoticed_39 rfl ?_
    refine pm_ladd hC dX10_chanceNoticed_40 ?_
    refine pm_someL hC (fun y27 b28 => ?_)
    have b28 := And.intro b28.1 b28.2
    refine pm_lconst (x := 0) hC dX10_chanceNoticed_41 rfl ?_
    refine pm_lcmp hC ⟨by omega, by omega⟩ ⟨by decide, by decide⟩ dX10_chanceNoticed_42 (fun y29 b30 => ?_)
    refine pm_if_ne (tgt := 52) hC ⟨by omega, by omega⟩ dX10_chanceNoticed_43 (by decide) (fun c31 => ?_) (fun c31 => ?_)
    · skip
      refine pm_lload_n hC 0 dX10_chanceNoticed_52 rfl ?_
      refine pm_lload_n hC 1 dX10_chanceNoticed_53 rfl ?_
      refine pm_lload_n hC 0 dX10_chanceNoticed_54 rfl ?_
      refine pm_ladd hC dX10_chanceNoticed_55 ?_
      refine pm_someL hC (fun y32 b33 => ?_)
      have b33 := And.intro b33.1 b33.2
      refine pm_callSN (as := [(1, y25), (1, y32)]) (st := []) hC (c_X11_ofThousand y25 y32 ⟨by omega, by omega⟩ ⟨by omega, by omega⟩) lm_X10_141 ls_X11_ofThousand (by decide) (by decide) rfl rfl (Nat.le_of_ble_eq_true rfl) ⟨Nat.le_refl _, Or.inl rfl⟩ dX10_chanceNoticed_56 ⟨rfl, hV0⟩ (fun r34 V35 hp36 => ?_)
      obtain ⟨y37, rfl, b38, rfl⟩ := hp36
      change pm_J X 59 [(3, (1, y25)), (1, (1, y13)), (0, (3, 73))] [(0, y37)] 118 V0
      exact pm_iret hC hR pm_nar0 ⟨y37, rfl, ⟨by omega, by omega⟩, rfl⟩ dX10_chanceNoticed_59
    · skip
      refine pm_sipush (v := 1000) hC dX10_chanceNoticed_46 (by decide) ?_
      refine pm_goto (tgt := 59) hC dX10_chanceNoticed_49 (by decide) ?_
      exact pm_iret hC hR pm_nar0 ⟨1000, rfl, ⟨by omega, by omega⟩, rfl⟩ dX10_chanceNoticed_59
  · skip
    refine pm_getf (v := 51) hC 73 fl_X10_59 rfl rfl (by decide) rfl e4 dX10_chanceNoticed_5 ?_
    obtain ⟨y39, e40⟩ : ∃ y, V0 51 0 = y := ⟨_, rfl⟩
    have b41 := hV0.get 51 0 (lo := 0) (hi := 9) (by decide) (by decide) rfl
    rw [e40] at b41
    refine pm_getf (v := y39) hC 51 fl_X10_79 rfl rfl (by decide) rfl e40 dX10_chanceNoticed_8 ?_
    refine pm_i2l hC ⟨by omega, by omega⟩ dX10_chanceNoticed_11 ?_
    refine pm_lmul hC dX10_chanceNoticed_12 ?_
    refine pm_someL hC (fun y42 b43 => ?_)
    have b43 := And.intro b43.1 b43.2
    refine pm_aload_n hC 0 (by decide) dX10_chanceNoticed_13 rfl ?_
    obtain ⟨y44, e45⟩ : ∃ y, V0 73 12 = y := ⟨_, rfl⟩
    have b46 := hV0.get 73 12 (lo := (-9223372036854775808)) (hi := 9223372036854775807) (by decide) (by decide) rfl
    rw [e45] at b46
    refine pm_getf (v := y44) hC 73 fl_X10_47 rfl rfl (by decide) rfl e45 dX10_chanceNoticed_14 ?_
    refine pm_lmul hC dX10_chanceNoticed_17 ?_
    refine pm_someL hC (fun y47 b48 => ?_)
    have b48 := And.intro b48.1 b48.2
    refine pm_lstore_n (lv' := [(1, (1, y47)), (0, (3, 73))]) hC dX10_chanceNoticed_18 (by decide) rfl ?_
    refine pm_ldc2 (v := 16) hC 4057 dX10_chanceNoticed_19 (by decide +kernel) ?_
    refine pm_aload_n hC 1 (by decide) dX10_chanceNoticed_22 rfl ?_
    refine pm_getf (v := y1) hC 73 fl_X10_30 rfl rfl (by decide) rfl e2 dX10_chanceNoticed_23 ?_
    refine pm_lsub hC dX10_chanceNoticed_26 ?_
    refine pm_someL hC (fun y49 b50 => ?_)
    have b50 := And.intro b50.1 b50.2
    refine pm_aload_n hC 1 (by decide) dX10_chanceNoticed_27 rfl ?_
    obtain ⟨y51, e52⟩ : ∃ y, V0 73 10 = y := ⟨_, rfl⟩
    have b53 := hV0.get 73 10 (lo := (-9223372036854775808)) (hi := 9223372036854775807) (by decide) (by decide) rfl
    rw [e52] at b53
    refine pm_getf (v := y51) hC 73 fl_X10_41 rfl rfl (by decide) rfl e52 dX10_chanceNoticed_28 ?_
    refine pm_lmul hC dX10_chanceNoticed_31 ?_
    refine pm_someL hC (fun y54 b55 => ?_)
    have b55 := And.intro b55.1 b55.2
    refine pm_aload_n hC 1 (by decide) dX10_chanceNoticed_32 rfl ?_
    obtain ⟨y56, e57⟩ : ∃ y, V0 73 11 = y := ⟨_, rfl⟩
    have b58 := hV0.get 73 11 (lo := (-9223372036854775808)) (hi := 9223372036854775807) (by decide) (by decide) rfl
    rw [e57] at b58
    refine pm_getf (v := y56) hC 73 fl_X10_44 rfl rfl (by decide) rfl e57 dX10_chanceNoticed_33 ?_
    refine pm_lmul hC dX10_chanceNoticed_36 ?_
    refine pm_someL hC (fun y59 b60 => ?_)
    have b60 := And.intro b60.1 b60.2
    refine pm_lstore_n (lv' := [(3, (1, y59)), (1, (1, y47)), (0, (3, 73))]) hC dX10_chanceNoticed_37 (by decide) rfl ?_
    refine pm_lload_n hC 1 dX10_chanceNoticed_38 rfl ?_
    refine pm_lload_n hC 0 dX10_chanceNoticed_39 rfl ?_
    refine pm_ladd hC dX10_chanceNoticed_40 ?_
    refine pm_someL hC (fun y61 b62 => ?_)
    have b62 := And.intro b62.1 b62.2
    refine pm_lconst (x := 0) hC dX10_chanceNoticed_41 rfl ?_
    refine pm_lcmp hC ⟨by omega, by omega⟩ ⟨by decide, by decide⟩ dX10_chanceNoticed_42 (fun y63 b64 => ?_)
    refine pm_if_ne (tgt := 52) hC ⟨by omega, by omega⟩ dX10_chanceNoticed_43 (by decide) (fun c65 => ?_) (fun c65 => ?_)
    · skip
      refine pm_lload_n hC 0 dX10_chanceNoticed_52 rfl ?_
      refine pm_lload_n hC 1 dX10_chanceNoticed_53 rfl ?_
      refine pm_lload_n hC 0 dX10_chanceNoticed_54 rfl ?_
      refine pm_ladd hC dX10_chanceNoticed_55 ?_
      refine pm_someL hC (fun y66 b67 => ?_)
      have b67 := And.intro b67.1 b67.2
      refine pm_callSN (as := [(1, y59), (1, y66)]) (st := []) hC (c_X11_ofThousand y59 y66 ⟨by omega, by omega⟩ ⟨by omega, by omega⟩) lm_X10_141 ls_X11_ofThousand (by decide) (by decide) rfl rfl (Nat.le_of_ble_eq_true rfl) ⟨Nat.le_refl _, Or.inl rfl⟩ dX10_chanceNoticed_56 ⟨rfl, hV0⟩ (fun r68 V69 hp70 => ?_)
      obtain ⟨y71, rfl, b72, rfl⟩ := hp70
      change pm_J X 59 [(3, (1, y59)), (1, (1, y47)), (0, (3, 73))] [(0, y71)] 118 V0
      exact pm_iret hC hR pm_nar0 ⟨y71, rfl, ⟨by omega, by omega⟩, rfl⟩ dX10_chanceNoticed_59
    · skip
      refine pm_sipush (v := 1000) hC dX10_chanceNoticed_46 (by decide) ?_
      refine pm_goto (tgt := 59) hC dX10_chanceNoticed_49 (by decide) ?_
      exact pm_iret hC hR pm_nar0 ⟨1000, rfl, ⟨by omega, by omega⟩, rfl⟩ dX10_chanceNoticed_59
set_option maxHeartbeats 4000000 in
set_option maxRecDepth 100000 in
theorem c_X11_noticed_0 (a1 a2 a3 : Int) (h0 : (-2147483648) ≤ a1 ∧ a1 ≤ 2147483647) (h1 : (-2147483648) ≤ a2 ∧ a2 ≤ 2147483647) (h2 : (-2147483648) ≤ a3 ∧ a3 ≤ 2147483647) : pm_K 5 yX11_noticed cX11_noticed 4 (some .int) (fun av V => av = [(3, 0), (0, a1), (0, a2), (0, a3)] ∧ pm_ok 0 90 V) (fun _ V r V' => ∃ y, r = some (0, y) ∧ ((-2147483648) ≤ y ∧ y ≤ 2147483647) ∧ pm_ok 0 90 V' ∧ pm_fr [73, 74, 75] V V') := by
  refine pm_MT.of (by decide) ⟨Nat.le_refl _, by decide⟩ (fun av V h => by rw [h.1]; exact (by decide : pm_words [(3, 0), (0, 0), (0, 0), (0, 0)] ≤ 4)) ?_
  rintro X av V0 hC - hR ⟨rfl, hV0⟩
  change pm_J X 0 [(0, (3, 0)), (1, (0, a1)), (2, (0, a2)), (3, (0, a3))] [] 118 V0
  refine pm_aload_n hC 0 (by decide) dX11_noticed_0 rfl ?_
  refine pm_iload_n hC 1 dX11_noticed_1 rfl ?_
  refine pm_iload_n hC 2 dX11_noticed_2 rfl ?_
  refine pm_iload_n hC 3 dX11_noticed_3 rfl ?_
  refine pm_callV (ci := 11) (as := [(0, a1), (0, a2), (0, a3)]) (st := []) hC 0 (c_X11_isTrial_0 a1 a2 a3 ⟨by omega, by omega⟩ ⟨by omega, by omega⟩ ⟨by omega, by omega⟩) lm_X11_225 li_X11_isTrial (by decide) (by decide) rfl rfl rfl (by decide) rfl rfl (Nat.le_of_ble_eq_true rfl) ⟨Nat.le_refl _, Or.inl rfl⟩ dX11_noticed_4 ⟨rfl, hV0⟩ (fun r1 V2 hp3 => ?_)
  obtain ⟨y4, rfl, b5, rfl⟩ := hp3
  change pm_J X 7 [(0, (3, 0)), (1, (0, a1)), (2, (0, a2)), (3, (0, a3))] [(0, y4)] 118 V0
  refine pm_if_ne (tgt := 12) hC ⟨by omega, by omega⟩ dX11_noticed_7 (by decide) (fun c6 => ?_) (fun c6 => ?_)
  · skip
    refine pm_aload_n hC 0 (by decide) dX11_noticed_12 rfl ?_
    refine pm_iload_n hC 1 dX11_noticed_13 rfl ?_
    refine pm_iload_n hC 2 dX11_noticed_14 rfl ?_
    refine pm_iload_n hC 3 dX11_noticed_15 rfl ?_
    refine pm_callV (ci := 11) (as := [(0, a1), (0, a2), (0, a3)]) (st := []) hC 0 (c_X11_pose_0 a1 a2 a3 ⟨by omega, by omega⟩ ⟨by omega, by omega⟩ ⟨by omega, by omega⟩ (by omega)) lm_X11_229 li_X11_pose (by decide) (by decide) rfl rfl rfl (by decide) rfl rfl (Nat.le_of_ble_eq_true rfl) ⟨Nat.le_refl _, Or.inl rfl⟩ dX11_noticed_16 ⟨rfl, hV0⟩ (fun r7 V8 hp9 => ?_)
    obtain ⟨rfl, hV10, hF11⟩ := hp9
    change pm_J X 19 [(0, (3, 0)), (1, (0, a1)), (2, (0, a2)), (3, (0, a3))] [] 118 V8
    have hF12 := pm_fr.tr (pm_fr.rf (ws := [73, 74, 75]) (V := V0)) hF11 (by decide)
    refine pm_aload_n hC 0 (by decide) dX11_noticed_19 rfl ?_
    have e13 : V8 0 5 = 73 := hV10.one 0 5 (by decide) (by decide) rfl
    refine pm_getf (v := 73) hC 0 fl_X11_75 rfl rfl (by decide) rfl e13 dX11_noticed_20 ?_
    refine pm_callV (ci := 10) (as := []) (st := []) hC 73 c_X10_chanceNoticed_73 lm_X11_233 li_X10_chanceNoticed (by decide) (by decide) rfl rfl rfl (by decide) rfl rfl (Nat.le_of_ble_eq_true rfl) ⟨Nat.le_refl _, Or.inl rfl⟩ dX11_noticed_23 ⟨rfl, hV10⟩ (fun r14 V15 hp16 => ?_)
    obtain ⟨y17, rfl, b18, rfl⟩ := hp16
    change pm_J X 26 [(0, (3, 0)), (1, (0, a1)), (2, (0, a2)), (3, (0, a3))] [(0, y17)] 118 V8
    exact pm_iret hC hR pm_nar0 ⟨y17, rfl, ⟨by omega, by omega⟩, hV10, hF12⟩ dX11_noticed_26
  · skip
    refine pm_iconst (v := (-1)) hC dX11_noticed_10 ?_
    exact pm_iret hC hR pm_nar0 ⟨(-1), rfl, ⟨by omega, by omega⟩, hV0, (pm_fr.rf (ws := [73, 74, 75]) (V := V0))⟩ dX11_noticed_11
set_option maxHeartbeats 4000000 in
set_option maxRecDepth 100000 in
theorem c_X7_addAnswer_4 (a1 a2 a3 a4 a5 : Int) (h0 : 0 ≤ a1 ∧ a1 ≤ 999) (h1 : 0 ≤ a2 ∧ a2 ≤ 99) (h2 : (-99) ≤ a3 ∧ a3 ≤ 99) (h3 : 0 ≤ a4 ∧ a4 ≤ 8) (h4 : 0 ≤ a5 ∧ a5 ≤ 1) (h5 : a1 % 10 ≤ 8 ∧ a1 / 10 % 10 ≤ 8) : pm_K 1 yX7_addAnswer cX7_addAnswer 6 none (fun av V => av = [(3, 4), (0, a1), (0, a2), (0, a3), (0, a4), (0, a5)] ∧ pm_ok 0 90 V) (fun _ V r V' => r = none ∧ pm_ok 0 90 V' ∧ pm_fr [4, 9, 10, 11, 12, 13] V V') := by
  refine pm_MT.of (by decide) ⟨Nat.le_refl _, by decide⟩ (fun av V h => by rw [h.1]; exact (by decide : pm_words [(3, 0), (0, 0), (0, 0), (0, 0), (0, 0), (0, 0)] ≤ 6)) ?_
  rintro X av V0 hC - hR ⟨rfl, hV0⟩
  change pm_J X 0 [(0, (3, 4)), (1, (0, a1)), (2, (0, a2)), (3, (0, a3)), (4, (0, a4)), (5, (0, a5))] [] 118 V0
  refine pm_aload_n hC 0 (by decide) dX7_addAnswer_0 rfl ?_
  obtain ⟨y1, e2⟩ : ∃ y, V0 4 6 = y := ⟨_, rfl⟩
  have b3 := hV0.get 4 6 (lo := 0) (hi := 60) (by decide) (by decide) rfl
  rw [e2] at b3
  refine pm_getf (v := y1) hC 4 fl_X7_32 rfl rfl (by decide) rfl e2 dX7_addAnswer_1 ?_
  refine pm_bipush (v := 60) hC dX7_addAnswer_4 (by decide) ?_
  refine pm_icmp_ge (tgt := 71) hC ⟨by omega, by omega⟩ ⟨by decide, by decide⟩ dX7_addAnswer_6 (by decide) (fun c4 => ?_) (fun c4 => ?_)
  · skip
    exact pm_vret hC hR ⟨rfl, hV0, (pm_fr.rf (ws := [4, 9, 10, 11, 12, 13]) (V := V0))⟩ dX7_addAnswer_71
  · skip
    refine pm_aload_n hC 0 (by decide) dX7_addAnswer_9 rfl ?_
    have e5 : V0 4 7 = 9 := hV0.one 4 7 (by decide) (by decide) rfl
    refine pm_getf (v := 9) hC 4 fl_X7_35 rfl rfl (by decide) rfl e5 dX7_addAnswer_10 ?_
    refine pm_aload_n hC 0 (by decide) dX7_addAnswer_13 rfl ?_
    refine pm_getf (v := y1) hC 4 fl_X7_32 rfl rfl (by decide) rfl e2 dX7_addAnswer_14 ?_
    refine pm_iload_n hC 1 dX7_addAnswer_17 rfl ?_
    refine pm_iastore (len := 60) hC 9 rfl rfl (by decide) ⟨by omega, by omega⟩ (by decide) dX7_addAnswer_18 ?_
    refine pm_aload_n hC 0 (by decide) dX7_addAnswer_19 rfl ?_
    have e6 : V0 4 8 = 10 := hV0.one 4 8 (by decide) (by decide) rfl
    refine pm_getf (v := 10) hC 4 fl_X7_38 rfl rfl (by decide) rfl e6 dX7_addAnswer_20 ?_
    refine pm_aload_n hC 0 (by decide) dX7_addAnswer_23 rfl ?_
    refine pm_getf (v := y1) hC 4 fl_X7_32 rfl rfl (by decide) rfl e2 dX7_addAnswer_24 ?_
    refine pm_iload_n hC 2 dX7_addAnswer_27 rfl ?_
    refine pm_iastore (len := 60) hC 10 rfl rfl (by decide) ⟨by omega, by omega⟩ (by decide) dX7_addAnswer_28 ?_
    refine pm_aload_n hC 0 (by decide) dX7_addAnswer_29 rfl ?_
    have e7 : V0 4 9 = 11 := hV0.one 4 9 (by decide) (by decide) rfl
    refine pm_getf (v := 11) hC 4 fl_X7_41 rfl rfl (by decide) rfl e7 dX7_addAnswer_30 ?_
    refine pm_aload_n hC 0 (by decide) dX7_addAnswer_33 rfl ?_
    refine pm_getf (v := y1) hC 4 fl_X7_32 rfl rfl (by decide) rfl e2 dX7_addAnswer_34 ?_
    refine pm_iload_n hC 3 dX7_addAnswer_37 rfl ?_
    refine pm_iastore (len := 60) hC 11 rfl rfl (by decide) ⟨by omega, by omega⟩ (by decide) dX7_addAnswer_38 ?_
    refine pm_aload_n hC 0 (by decide) dX7_addAnswer_39 rfl ?_
    have e8 : V0 4 10 = 12 := hV0.one 4 10 (by decide) (by decide) rfl
    refine pm_getf (v := 12) hC 4 fl_X7_44 rfl rfl (by decide) rfl e8 dX7_addAnswer_40 ?_
    refine pm_aload_n hC 0 (by decide) dX7_addAnswer_43 rfl ?_
    refine pm_getf (v := y1) hC 4 fl_X7_32 rfl rfl (by decide) rfl e2 dX7_addAnswer_44 ?_
    refine pm_iload hC 4 dX7_addAnswer_47 rfl ?_
    refine pm_iastore (len := 60) hC 12 rfl rfl (by decide) ⟨by omega, by omega⟩ (by decide) dX7_addAnswer_49 ?_
    refine pm_aload_n hC 0 (by decide) dX7_addAnswer_50 rfl ?_
    have e9 : V0 4 11 = 13 := hV0.one 4 11 (by decide) (by decide) rfl
    refine pm_getf (v := 13) hC 4 fl_X7_47 rfl rfl (by decide) rfl e9 dX7_addAnswer_51 ?_
    refine pm_aload_n hC 0 (by decide) dX7_addAnswer_54 rfl ?_
    refine pm_getf (v := y1) hC 4 fl_X7_32 rfl rfl (by decide) rfl e2 dX7_addAnswer_55 ?_
    refine pm_iload hC 5 dX7_addAnswer_58 rfl ?_
    refine pm_zastore (len := 60) hC 13 rfl rfl (by decide) ⟨by omega, by omega⟩ (by decide) (by omega) dX7_addAnswer_60 ?_
    refine pm_aload_n hC 0 (by decide) dX7_addAnswer_61 rfl ?_
    refine pm_dup hC rfl dX7_addAnswer_62 ?_
    refine pm_getf (v := y1) hC 4 fl_X7_32 rfl rfl (by decide) rfl e2 dX7_addAnswer_63 ?_
    refine pm_iconst (v := 1) hC dX7_addAnswer_66 ?_
    refine pm_iadd hC dX7_addAnswer_67 ?_
    refine pm_putf hC 4 fl_X7_32 rfl rfl rfl (by decide) rfl trivial dX7_addAnswer_68 ?_
    exact pm_vret hC hR ⟨rfl, ((((((hV0.put1 9 (y1 : Int).toNat (x := a1) (lo := 0) (hi := 999) rfl (by omega)).put 10 (y1 : Int).toNat (x := a2) (lo := 0) (hi := 99) rfl ⟨by omega, by omega⟩).put 11 (y1 : Int).toNat (x := a3) (lo := (-99)) (hi := 99) rfl ⟨by omega, by omega⟩).put 12 (y1 : Int).toNat (x := a4) (lo := 0) (hi := 8) rfl ⟨by omega, by omega⟩).put 13 (y1 : Int).toNat (x := a5) (lo := 0) (hi := 1) rfl ⟨by omega, by omega⟩).put 4 6 (x := (y1 + 1)) (lo := 0) (hi := 60) rfl ⟨by omega, by omega⟩), (((((((pm_fr.rf (ws := [4, 9, 10, 11, 12, 13]) (V := V0)).up 9 (y1 : Int).toNat a1 rfl).up 10 (y1 : Int).toNat a2 rfl).up 11 (y1 : Int).toNat a3 rfl).up 12 (y1 : Int).toNat a4 rfl).up 13 (y1 : Int).toNat a5 rfl).up 4 6 (y1 + 1) rfl)⟩ dX7_addAnswer_71
