noncomputable def F_X12_chanceOf (a1 : Int) (V0 : pm_M) : Int × pm_M := pf_let (V0 90 51) fun y1 => pf_let (V0 112 (a1 : Int).toNat) fun y5 => pf_let (pm_w64 (Int.tdiv (1000 * y5) y1)) fun y8 => pf_let (pm_w32 y8) fun y11 => (y11, V0)
theorem F_X12_chanceOf_eq (a1 : Int) (V0 : pm_M) : F_X12_chanceOf a1 V0 = pf_let (V0 90 51) fun y1 => pf_let (V0 112 (a1 : Int).toNat) fun y5 => pf_let (pm_w64 (Int.tdiv (1000 * y5) y1)) fun y8 => pf_let (pm_w32 y8) fun y11 => (y11, V0) := rfl
noncomputable def F_X12_chanceOfKind (a1 : Int) (V0 : pm_M) : Int × pm_M := pf_let (V0 90 51) fun y1 => pf_val ((0 : Int), V0) (fun (q : Int × Int) => match q with | (x4, x6) => (pf_let (V0 90 16) fun y15 => (if y15 ≤ x6 then (pf_let (pm_w64 (1000 * x4)) fun y19 => pf_let (pm_w64 (Int.tdiv y19 y1)) fun y22 => pf_let (pm_w32 y22) fun y25 => (.inr (y25, V0))) else (pf_call (F_X12_kindOf x6 V0) fun y31 _ => (if ¬ (y31 = a1) then (pf_let (x6 + 1) fun x35 => (.inl ((x4 + 0), x35))) else (pf_let (V0 112 (x6 : Int).toNat) fun y38 => pf_let (pm_w64 (x4 + y38)) fun y41 => pf_let (x6 + 1) fun x44 => (.inl (y41, x44)))))))) (0, 0)
theorem F_X12_chanceOfKind_eq (a1 : Int) (V0 : pm_M) : F_X12_chanceOfKind a1 V0 = pf_let (V0 90 51) fun y1 => pf_val ((0 : Int), V0) (fun (q : Int × Int) => match q with | (x4, x6) => (pf_let (V0 90 16) fun y15 => (if y15 ≤ x6 then (pf_let (pm_w64 (1000 * x4)) fun y19 => pf_let (pm_w64 (Int.tdiv y19 y1)) fun y22 => pf_let (pm_w32 y22) fun y25 => (.inr (y25, V0))) else (pf_call (F_X12_kindOf x6 V0) fun y31 _ => (if ¬ (y31 = a1) then (pf_let (x6 + 1) fun x35 => (.inl ((x4 + 0), x35))) else (pf_let (V0 112 (x6 : Int).toNat) fun y38 => pf_let (pm_w64 (x4 + y38)) fun y41 => pf_let (x6 + 1) fun x44 => (.inl (y41, x44)))))))) (0, 0) := rfl
set_option maxHeartbeats 4000000 in
set_option maxRecDepth 100000 in
theorem fB_X12_chanceOf (a1 : Int) (h0 : 0 ≤ a1 ∧ a1 ≤ 8) : pm_K 1 yX12_chanceOf cX12_chanceOf 2 (some .int) (fun av V => av = [(3, 90), (0, a1)] ∧ pm_oq pm_qB V ∧ pm_w2 V) (fun _ V r V' => ∃ y, r = some (0, y) ∧ ((-2147483648) ≤ y ∧ y ≤ 2147483647) ∧ V = V' ∧ F_X12_chanceOf a1 V = (y, V)) := by
  refine pm_MT.of (by decide) ⟨Nat.le_refl _, by decide⟩ (fun av V h => by rw [h.1]; exact (by decide : pm_words [(3, 0), (0, 0)] ≤ 2)) ?_
  rintro X av V0 hC - hR ⟨rfl, hV0, hn_pm_w2⟩
  change pm_J X 0 [(0, (3, 90)), (1, (0, a1))] [] 118 V0
  have hT := F_X12_chanceOf_eq a1 V0
  obtain ⟨y1, e2⟩ : ∃ y, V0 90 51 = y := ⟨_, rfl⟩
  have b3 := hV0.get 90 51 (lo := 0) (hi := 720000000) (by decide) (by decide) rfl
  rw [e2] at b3
  replace hT := hT.trans (pf_let_eq e2)
  have hw2 := hn_pm_w2.1
  rw [e2] at hw2
  refine pm_ldc2 (v := 1000) hC 7092 dX12_chanceOf_0 (by decide +kernel) ?_
  refine pm_aload_n hC 0 (by decide) dX12_chanceOf_3 rfl ?_
  have e4 : V0 90 50 = 112 := hV0.one 90 50 (by decide) (by decide) rfl
  refine pm_getf (v := 112) hC 90 fl_X12_76 rfl rfl (by decide) rfl e4 dX12_chanceOf_4 ?_
  refine pm_iload_n hC 1 dX12_chanceOf_7 rfl ?_
  obtain ⟨y5, e6⟩ : ∃ y, V0 112 (a1 : Int).toNat = y := ⟨_, rfl⟩
  replace hT := hT.trans (pf_let_eq e6)
  have b7 := hV0.get 112 (a1 : Int).toNat (lo := 0) (hi := 80000000) (t := 0) (by decide) (show _ < 9 by omega) rfl
  rw [e6] at b7
  refine pm_laload (len := 9) (v := y5) hC 112 rfl rfl (by decide) ⟨by omega, by omega⟩ (by decide) e6 dX12_chanceOf_8 ?_
  refine pm_lmul hC dX12_chanceOf_9 ?_
  refine pm_aload_n hC 0 (by decide) dX12_chanceOf_10 rfl ?_
  refine pm_getf (v := y1) hC 90 fl_X12_362 rfl rfl (by decide) rfl e2 dX12_chanceOf_11 ?_
  refine pm_ldivT hC ⟨by omega, by omega⟩ ⟨by omega, by omega⟩ (by omega) dX12_chanceOf_14 ?_
  refine pm_wrL hC (fun y8 hw10 b9 => ?_)
  replace hT := hT.trans (pf_let_eq hw10)
  have b9 := And.intro b9.1 b9.2
  refine pm_l2i hC dX12_chanceOf_15 ?_
  refine pm_wr hC (fun y11 hw13 b12 => ?_)
  replace hT := hT.trans (pf_let_eq hw13)
  have b12 := And.intro b12.1 b12.2
  exact pm_iret hC hR pm_nar0 ⟨y11, rfl, ⟨by omega, by omega⟩, rfl, hT⟩ dX12_chanceOf_16
set_option maxHeartbeats 4000000 in
set_option maxRecDepth 100000 in
theorem fB_X12_chanceOfKind (a1 : Int) (h0 : (-2147483648) ≤ a1 ∧ a1 ≤ 2147483647) : pm_K 2 yX12_chanceOfKind cX12_chanceOfKind 5 (some .int) (fun av V => av = [(3, 90), (0, a1)] ∧ pm_oq pm_qB V ∧ pm_w2 V) (fun _ V r V' => ∃ y, r = some (0, y) ∧ ((-2147483648) ≤ y ∧ y ≤ 2147483647) ∧ V = V' ∧ F_X12_chanceOfKind a1 V = (y, V)) := by
  refine pm_MT.of (by decide) ⟨Nat.le_refl _, by decide⟩ (fun av V h => by rw [h.1]; exact (by decide : pm_words [(3, 0), (0, 0)] ≤ 5)) ?_
  rintro X av V0 hC - hR ⟨rfl, hV0, hn_pm_w2⟩
  change pm_J X 0 [(0, (3, 90)), (1, (0, a1))] [] 118 V0
  have hT := F_X12_chanceOfKind_eq a1 V0
  obtain ⟨y1, e2⟩ : ∃ y, V0 90 51 = y := ⟨_, rfl⟩
  have b3 := hV0.get 90 51 (lo := 0) (hi := 720000000) (by decide) (by decide) rfl
  rw [e2] at b3
  replace hT := hT.trans (pf_let_eq e2)
  have hw2 := hn_pm_w2.1
  rw [e2] at hw2
  refine pm_lconst (x := 0) hC dX12_chanceOfKind_0 rfl ?_
  refine pm_lstore_n (lv' := [(2, (1, 0)), (0, (3, 90)), (1, (0, a1))]) hC dX12_chanceOfKind_1 (by decide) rfl ?_
  refine pm_iconst (v := 0) hC dX12_chanceOfKind_2 ?_
  refine pm_istore (lv' := [(4, (0, 0)), (2, (1, 0)), (0, (3, 90)), (1, (0, a1))]) hC dX12_chanceOfKind_3 (by decide) rfl ?_
  obtain ⟨B8, hB9, hT⟩ := pf_loop hT
  have L11 : ∀ (N13 : Nat) (x4 : Int) (x6 : Int), ((-9223372036854775808) ≤ x4 ∧ x4 ≤ 9223372036854775807) → (0 ≤ x6 ∧ x6 ≤ 9) → F_X12_chanceOfKind a1 V0 = pf_val ((0 : Int), V0) B8 (x4, x6) → (Int.toNat (9 - x6)) = N13 → pm_J X 5 [(0, (3, 90)), (1, (0, a1)), (2, (1, x4)), (4, (0, x6))] [] 118 V0 := by
    intro N13
    induction N13 using Nat.strongRecOn with
    | _ N13 ih14 =>
    intro x4 x6 b5 b7 hT hm12
    have hb10 := congrFun hB9 (x4, x6)
    refine pm_iload hC 3 dX12_chanceOfKind_5 rfl ?_
    refine pm_aload_n hC 0 (by decide) dX12_chanceOfKind_7 rfl ?_
    obtain ⟨y15, e16⟩ : ∃ y, V0 90 16 = y := ⟨_, rfl⟩
    have b17 := hV0.get 90 16 (lo := 2) (hi := 9) (by decide) (by decide) rfl
    rw [e16] at b17
    replace hb10 := hb10.trans (pf_let_eq e16)
    refine pm_getf (v := y15) hC 90 fl_X12_220 rfl rfl (by decide) rfl e16 dX12_chanceOfKind_8 ?_
    refine pm_icmp_ge (tgt := 44) hC ⟨by omega, by omega⟩ ⟨by omega, by omega⟩ dX12_chanceOfKind_11 (by decide) (fun c18 => ?_) (fun c18 => ?_)
    · skip
      replace hb10 := hb10.trans (if_pos c18)
      refine pm_ldc2 (v := 1000) hC 7092 dX12_chanceOfKind_44 (by decide +kernel) ?_
      refine pm_lload_n hC 2 dX12_chanceOfKind_47 rfl ?_
      refine pm_lmul hC dX12_chanceOfKind_48 ?_
      refine pm_wrL hC (fun y19 hw21 b20 => ?_)
      replace hb10 := hb10.trans (pf_let_eq hw21)
      have b20 := And.intro b20.1 b20.2
      refine pm_aload_n hC 0 (by decide) dX12_chanceOfKind_49 rfl ?_
      refine pm_getf (v := y1) hC 90 fl_X12_362 rfl rfl (by decide) rfl e2 dX12_chanceOfKind_50 ?_
      refine pm_ldivT hC ⟨by omega, by omega⟩ ⟨by omega, by omega⟩ (by omega) dX12_chanceOfKind_53 ?_
      refine pm_wrL hC (fun y22 hw24 b23 => ?_)
      replace hb10 := hb10.trans (pf_let_eq hw24)
      have b23 := And.intro b23.1 b23.2
      refine pm_l2i hC dX12_chanceOfKind_54 ?_
      refine pm_wr hC (fun y25 hw27 b26 => ?_)
      replace hb10 := hb10.trans (pf_let_eq hw27)
      have b26 := And.intro b26.1 b26.2
      have hT := hT.trans (pf_val_inr hb10)
      exact pm_iret hC hR pm_nar0 ⟨y25, rfl, ⟨by omega, by omega⟩, rfl, hT⟩ dX12_chanceOfKind_55
    · skip
      replace hb10 := hb10.trans (if_neg (Int.not_le.mpr c18))
      refine pm_lload_n hC 2 dX12_chanceOfKind_14 rfl ?_
      refine pm_aload_n hC 0 (by decide) dX12_chanceOfKind_15 rfl ?_
      refine pm_iload hC 3 dX12_chanceOfKind_16 rfl ?_
      refine pm_callV (ci := 12) (as := [(0, x6)]) (st := [(1, x4)]) hC 90 (fB_X12_kindOf x6 ⟨by omega, by omega⟩) lm_X12_367 li_X12_kindOf (by decide) (by decide) rfl rfl rfl (by decide) rfl rfl (Nat.le_of_ble_eq_true rfl) ⟨Nat.le_refl _, Or.inl rfl⟩ dX12_chanceOfKind_18 ⟨rfl, hV0⟩ (fun r28 V29 hp30 => ?_)
      obtain ⟨y31, rfl, b32, rfl, hE33⟩ := hp30
      replace hb10 := hb10.trans (pf_call_eq hE33)
      change pm_J X 21 [(0, (3, 90)), (1, (0, a1)), (2, (1, x4)), (4, (0, x6))] [(0, y31), (1, x4)] 118 V0
      refine pm_iload_n hC 1 dX12_chanceOfKind_21 rfl ?_
      refine pm_icmp_ne (tgt := 35) hC ⟨by omega, by omega⟩ ⟨by omega, by omega⟩ dX12_chanceOfKind_22 (by decide) (fun c34 => ?_) (fun c34 => ?_)
      · skip
        replace hb10 := hb10.trans (if_pos c34)
        refine pm_lconst (x := 0) hC dX12_chanceOfKind_35 rfl ?_
        refine pm_ladd hC dX12_chanceOfKind_36 ?_
        refine pm_lstore_n (lv' := [(2, (1, (x4 + 0))), (0, (3, 90)), (1, (0, a1)), (4, (0, x6))]) hC dX12_chanceOfKind_37 (by decide) rfl ?_
        obtain ⟨x35, ei36⟩ : ∃ y : Int, x6 + 1 = y := ⟨_, rfl⟩
        replace hb10 := hb10.trans (pf_let_eq ei36)
        refine pm_iinc (y := x35) (lv' := [(4, (0, x35)), (2, (1, (x4 + 0))), (0, (3, 90)), (1, (0, a1))]) hC 3 dX12_chanceOfKind_38 (by decide) rfl ei36 rfl ?_
        refine pm_goto (tgt := 5) hC dX12_chanceOfKind_41 (by decide) ?_
        refine pm_lvsub [2, 3, 1, 0] (lv' := [(0, (3, 90)), (1, (0, a1)), (2, (1, (x4 + 0))), (4, (0, x35))]) rfl ?_
        exact ih14 _ (by omega) (x4 + 0) x35 ⟨by omega, by omega⟩ ⟨by omega, by omega⟩ (hT.trans (pf_val_inl hb10)) rfl
      · skip
        replace hb10 := hb10.trans (if_neg (fun q => q c34))
        refine pm_aload_n hC 0 (by decide) dX12_chanceOfKind_25 rfl ?_
        have e37 : V0 90 50 = 112 := hV0.one 90 50 (by decide) (by decide) rfl
        refine pm_getf (v := 112) hC 90 fl_X12_76 rfl rfl (by decide) rfl e37 dX12_chanceOfKind_26 ?_
        refine pm_iload hC 3 dX12_chanceOfKind_29 rfl ?_
        obtain ⟨y38, e39⟩ : ∃ y, V0 112 (x6 : Int).toNat = y := ⟨_, rfl⟩
        replace hb10 := hb10.trans (pf_let_eq e39)
        have b40 := hV0.get 112 (x6 : Int).toNat (lo := 0) (hi := 80000000) (t := 0) (by decide) (show _ < 9 by omega) rfl
        rw [e39] at b40
        refine pm_laload (len := 9) (v := y38) hC 112 rfl rfl (by decide) ⟨by omega, by omega⟩ (by decide) e39 dX12_chanceOfKind_31 ?_
        refine pm_goto (tgt := 36) hC dX12_chanceOfKind_32 (by decide) ?_
        refine pm_ladd hC dX12_chanceOfKind_36 ?_
        refine pm_wrL hC (fun y41 hw43 b42 => ?_)
        replace hb10 := hb10.trans (pf_let_eq hw43)
        have b42 := And.intro b42.1 b42.2
        refine pm_lstore_n (lv' := [(2, (1, y41)), (0, (3, 90)), (1, (0, a1)), (4, (0, x6))]) hC dX12_chanceOfKind_37 (by decide) rfl ?_
        obtain ⟨x44, ei45⟩ : ∃ y : Int, x6 + 1 = y := ⟨_, rfl⟩
        replace hb10 := hb10.trans (pf_let_eq ei45)
        refine pm_iinc (y := x44) (lv' := [(4, (0, x44)), (2, (1, y41)), (0, (3, 90)), (1, (0, a1))]) hC 3 dX12_chanceOfKind_38 (by decide) rfl ei45 rfl ?_
        refine pm_goto (tgt := 5) hC dX12_chanceOfKind_41 (by decide) ?_
        refine pm_lvsub [2, 3, 1, 0] (lv' := [(0, (3, 90)), (1, (0, a1)), (2, (1, y41)), (4, (0, x44))]) rfl ?_
        exact ih14 _ (by omega) y41 x44 ⟨by omega, by omega⟩ ⟨by omega, by omega⟩ (hT.trans (pf_val_inl hb10)) rfl
  refine pm_lvsub [2, 3, 1, 0] (lv' := [(0, (3, 90)), (1, (0, a1)), (2, (1, 0)), (4, (0, 0))]) rfl ?_
  exact L11 _ 0 0 ⟨by decide, by decide⟩ ⟨by decide, by decide⟩ hT rfl
