noncomputable def F_X12_keepsAnswer (a1 a2 a3 a4 a5 : Int) (V0 : pm_M) : Int × pm_M := pf_let (V0 90 16) fun y1 => pf_let (V0 90 25) fun y4 => (0, (pm_up (pm_up (pm_up (pm_up (pm_up (pm_up V0 101 ((5 * y4) : Int).toNat a1) 101 (((5 * y4) + 1) : Int).toNat a2) 101 (((5 * y4) + 2) : Int).toNat a3) 101 (((5 * y4) + 3) : Int).toNat a4) 101 (((5 * y4) + 4) : Int).toNat a5) 90 25 (y4 + 1)))
theorem F_X12_keepsAnswer_eq (a1 a2 a3 a4 a5 : Int) (V0 : pm_M) : F_X12_keepsAnswer a1 a2 a3 a4 a5 V0 = pf_let (V0 90 16) fun y1 => pf_let (V0 90 25) fun y4 => (0, (pm_up (pm_up (pm_up (pm_up (pm_up (pm_up V0 101 ((5 * y4) : Int).toNat a1) 101 (((5 * y4) + 1) : Int).toNat a2) 101 (((5 * y4) + 2) : Int).toNat a3) 101 (((5 * y4) + 3) : Int).toNat a4) 101 (((5 * y4) + 4) : Int).toNat a5) 90 25 (y4 + 1))) := rfl
noncomputable def F_X12_answer (a1 a2 a3 a4 : Int) (V0 : pm_M) : Int × pm_M := pf_let (V0 90 16) fun y1 => pf_let (V0 90 25) fun y4 => pf_call (F_X12_isTrial a1 a2 a3 V0) fun y10 _ => (if y10 = 0 then (((-1), V0)) else ((if a4 < 0 then (((-1), V0)) else ((if 1 < (a4 / 100) then (((-1), V0)) else ((if y1 ≤ (a4 % 100) then (((-1), V0)) else ((if ¬ (y4 = 60) then (pf_call (F_X12_keepsAnswer a1 a2 a3 (a4 % 100) (a4 / 100) V0) fun _ V19 => pf_let (V19 90 25) fun y28 => (y28, V19)) else (((-1), V0)))))))))))
theorem F_X12_answer_eq (a1 a2 a3 a4 : Int) (V0 : pm_M) : F_X12_answer a1 a2 a3 a4 V0 = pf_let (V0 90 16) fun y1 => pf_let (V0 90 25) fun y4 => pf_call (F_X12_isTrial a1 a2 a3 V0) fun y10 _ => (if y10 = 0 then (((-1), V0)) else ((if a4 < 0 then (((-1), V0)) else ((if 1 < (a4 / 100) then (((-1), V0)) else ((if y1 ≤ (a4 % 100) then (((-1), V0)) else ((if ¬ (y4 = 60) then (pf_call (F_X12_keepsAnswer a1 a2 a3 (a4 % 100) (a4 / 100) V0) fun _ V19 => pf_let (V19 90 25) fun y28 => (y28, V19)) else (((-1), V0))))))))))) := rfl
noncomputable def F_X12_of (a1 a2 : Int) (V0 : pm_M) : Int × pm_M := pf_let (V0 90 25) fun y1 => pf_call (F_X12_in a1 0 (y1 - 1) V0) fun y7 _ => (if y7 = 0 then (((-2147483648), V0)) else (pf_call (F_X12_in a2 0 5 V0) fun y14 _ => (if ¬ (y14 = 0) then ((if 5 ≤ a2 then (pf_call (F_X12_worksAnswer a1 V0) fun _ V20 => pf_let (V20 90 42) fun z33 => pf_let (V20 90 43) fun z35 => pf_let (V20 101 (((5 * a1) + 3) : Int).toNat) fun y38 => pf_call (F_X12_kindOf y38 V20) fun y44 _ => (y44, V20)) else (pf_let (V0 101 (((5 * a1) + a2) : Int).toNat) fun y48 => (y48, V0)))) else (((-2147483648), V0)))))
theorem F_X12_of_eq (a1 a2 : Int) (V0 : pm_M) : F_X12_of a1 a2 V0 = pf_let (V0 90 25) fun y1 => pf_call (F_X12_in a1 0 (y1 - 1) V0) fun y7 _ => (if y7 = 0 then (((-2147483648), V0)) else (pf_call (F_X12_in a2 0 5 V0) fun y14 _ => (if ¬ (y14 = 0) then ((if 5 ≤ a2 then (pf_call (F_X12_worksAnswer a1 V0) fun _ V20 => pf_let (V20 90 42) fun z33 => pf_let (V20 90 43) fun z35 => pf_let (V20 101 (((5 * a1) + 3) : Int).toNat) fun y38 => pf_call (F_X12_kindOf y38 V20) fun y44 _ => (y44, V20)) else (pf_let (V0 101 (((5 * a1) + a2) : Int).toNat) fun y48 => (y48, V0)))) else (((-2147483648), V0))))) := rfl
set_option maxHeartbeats 4000000 in
set_option maxRecDepth 100000 in
theorem fB_X12_keepsAnswer (a1 a2 a3 a4 a5 : Int) (h0 : 0 ≤ a1 ∧ a1 ≤ 999) (h1 : 0 ≤ a2 ∧ a2 ≤ 99) (h2 : (-99) ≤ a3 ∧ a3 ≤ 99) (h3 : 0 ≤ a4 ∧ a4 ≤ 8) (h4 : 0 ≤ a5 ∧ a5 ≤ 1) (h5 : a1 % 10 ≤ 8 ∧ a1 / 10 % 10 ≤ 8) : pm_K 1 yX12_keepsAnswer cX12_keepsAnswer 7 none (fun av V => av = [(3, 90), (0, a1), (0, a2), (0, a3), (0, a4), (0, a5)] ∧ pm_oq pm_qB V ∧ (a1 % 10 < V 90 16) ∧ (a1 / 10 % 10 < V 90 16) ∧ (a4 < V 90 16) ∧ (V 90 25 ≤ 59) ∧ pm_h3 V) (fun _ V r V' => r = none ∧ pm_oq pm_qB V' ∧ pm_fs [101] [25] V V' ∧ pm_h3 V' ∧ (V' 90 25 = V 90 25 + 1) ∧ F_X12_keepsAnswer a1 a2 a3 a4 a5 V = (0, V')) := by
  refine pm_MT.of (by decide) ⟨Nat.le_refl _, by decide⟩ (fun av V h => by rw [h.1]; exact (by decide : pm_words [(3, 0), (0, 0), (0, 0), (0, 0), (0, 0), (0, 0)] ≤ 7)) ?_
  rintro X av V0 hC - hR ⟨rfl, hV0, hmp0, hmp1, hmp2, hmp3, hn_pm_h3⟩
  change pm_J X 0 [(0, (3, 90)), (1, (0, a1)), (2, (0, a2)), (3, (0, a3)), (4, (0, a4)), (5, (0, a5))] [] 118 V0
  have hT := F_X12_keepsAnswer_eq a1 a2 a3 a4 a5 V0
  obtain ⟨y1, e2⟩ : ∃ y, V0 90 16 = y := ⟨_, rfl⟩
  have b3 := hV0.get 90 16 (lo := 2) (hi := 9) (by decide) (by decide) rfl
  rw [e2] at b3
  replace hT := hT.trans (pf_let_eq e2)
  obtain ⟨y4, e5⟩ : ∃ y, V0 90 25 = y := ⟨_, rfl⟩
  have b6 := hV0.get 90 25 (lo := 0) (hi := 60) (by decide) (by decide) rfl
  rw [e5] at b6
  replace hT := hT.trans (pf_let_eq e5)
  refine pm_iconst (v := 5) hC dX12_keepsAnswer_0 ?_
  refine pm_aload_n hC 0 (by decide) dX12_keepsAnswer_1 rfl ?_
  refine pm_getf (v := y4) hC 90 fl_X12_235 rfl rfl (by decide) rfl e5 dX12_keepsAnswer_2 ?_
  refine pm_imul hC dX12_keepsAnswer_5 ?_
  refine pm_istore (lv' := [(6, (0, (5 * y4))), (0, (3, 90)), (1, (0, a1)), (2, (0, a2)), (3, (0, a3)), (4, (0, a4)), (5, (0, a5))]) hC dX12_keepsAnswer_6 (by decide) rfl ?_
  refine pm_aload_n hC 1 (by decide) dX12_keepsAnswer_8 rfl ?_
  have e7 : V0 90 26 = 101 := hV0.one 90 26 (by decide) (by decide) rfl
  refine pm_getf (v := 101) hC 90 fl_X12_43 rfl rfl (by decide) rfl e7 dX12_keepsAnswer_9 ?_
  refine pm_iload hC 0 dX12_keepsAnswer_12 rfl ?_
  refine pm_iload_n hC 2 dX12_keepsAnswer_14 rfl ?_
  refine pm_iastore (len := 300) hC 101 rfl rfl (by decide) ⟨by omega, by omega⟩ (by decide) dX12_keepsAnswer_15 ?_
  refine pm_aload_n hC 1 (by decide) dX12_keepsAnswer_16 rfl ?_
  refine pm_getf (v := 101) hC 90 fl_X12_43 rfl rfl (by decide) rfl e7 dX12_keepsAnswer_17 ?_
  refine pm_iload hC 0 dX12_keepsAnswer_20 rfl ?_
  refine pm_iconst (v := 1) hC dX12_keepsAnswer_22 ?_
  refine pm_iadd hC dX12_keepsAnswer_23 ?_
  refine pm_iload_n hC 3 dX12_keepsAnswer_24 rfl ?_
  refine pm_iastore (len := 300) hC 101 rfl rfl (by decide) ⟨by omega, by omega⟩ (by decide) dX12_keepsAnswer_25 ?_
  refine pm_aload_n hC 1 (by decide) dX12_keepsAnswer_26 rfl ?_
  refine pm_getf (v := 101) hC 90 fl_X12_43 rfl rfl (by decide) rfl e7 dX12_keepsAnswer_27 ?_
  refine pm_iload hC 0 dX12_keepsAnswer_30 rfl ?_
  refine pm_iconst (v := 2) hC dX12_keepsAnswer_32 ?_
  refine pm_iadd hC dX12_keepsAnswer_33 ?_
  refine pm_iload_n hC 4 dX12_keepsAnswer_34 rfl ?_
  refine pm_iastore (len := 300) hC 101 rfl rfl (by decide) ⟨by omega, by omega⟩ (by decide) dX12_keepsAnswer_35 ?_
  refine pm_aload_n hC 1 (by decide) dX12_keepsAnswer_36 rfl ?_
  refine pm_getf (v := 101) hC 90 fl_X12_43 rfl rfl (by decide) rfl e7 dX12_keepsAnswer_37 ?_
  refine pm_iload hC 0 dX12_keepsAnswer_40 rfl ?_
  refine pm_iconst (v := 3) hC dX12_keepsAnswer_42 ?_
  refine pm_iadd hC dX12_keepsAnswer_43 ?_
  refine pm_iload hC 5 dX12_keepsAnswer_44 rfl ?_
  refine pm_iastore (len := 300) hC 101 rfl rfl (by decide) ⟨by omega, by omega⟩ (by decide) dX12_keepsAnswer_46 ?_
  refine pm_aload_n hC 1 (by decide) dX12_keepsAnswer_47 rfl ?_
  refine pm_getf (v := 101) hC 90 fl_X12_43 rfl rfl (by decide) rfl e7 dX12_keepsAnswer_48 ?_
  refine pm_iload hC 0 dX12_keepsAnswer_51 rfl ?_
  refine pm_iconst (v := 4) hC dX12_keepsAnswer_53 ?_
  refine pm_iadd hC dX12_keepsAnswer_54 ?_
  refine pm_iload hC 6 dX12_keepsAnswer_55 rfl ?_
  refine pm_iastore (len := 300) hC 101 rfl rfl (by decide) ⟨by omega, by omega⟩ (by decide) dX12_keepsAnswer_57 ?_
  refine pm_aload_n hC 1 (by decide) dX12_keepsAnswer_58 rfl ?_
  refine pm_dup hC rfl dX12_keepsAnswer_59 ?_
  refine pm_getf (v := y4) hC 90 fl_X12_235 rfl rfl (by decide) rfl e5 dX12_keepsAnswer_60 ?_
  refine pm_iconst (v := 1) hC dX12_keepsAnswer_63 ?_
  refine pm_iadd hC dX12_keepsAnswer_64 ?_
  refine pm_putf hC 90 fl_X12_235 rfl rfl rfl (by decide) rfl trivial dX12_keepsAnswer_65 ?_
  exact pm_vret hC hR ⟨rfl, ((((((hV0.put1 101 ((5 * y4) : Int).toNat (x := a1) (lo := 0) (hi := 999) ((pm_qe_r (tb := pm_qB) (k := 101) (i := ((5 * y4) : Int).toNat) (m := 5) (r := 0) (l := [(0, 999, 1), (0, 99, 0), (-99, 99, 0), (0, 8, 0), (0, 1, 0)]) rfl rfl (by omega)).trans rfl) (by omega)).put 101 (((5 * y4) + 1) : Int).toNat (x := a2) (lo := 0) (hi := 99) ((pm_qe_r (tb := pm_qB) (k := 101) (i := (((5 * y4) + 1) : Int).toNat) (m := 5) (r := 1) (l := [(0, 999, 1), (0, 99, 0), (-99, 99, 0), (0, 8, 0), (0, 1, 0)]) rfl rfl (by omega)).trans rfl) ⟨by omega, by omega⟩).put 101 (((5 * y4) + 2) : Int).toNat (x := a3) (lo := (-99)) (hi := 99) ((pm_qe_r (tb := pm_qB) (k := 101) (i := (((5 * y4) + 2) : Int).toNat) (m := 5) (r := 2) (l := [(0, 999, 1), (0, 99, 0), (-99, 99, 0), (0, 8, 0), (0, 1, 0)]) rfl rfl (by omega)).trans rfl) ⟨by omega, by omega⟩).put 101 (((5 * y4) + 3) : Int).toNat (x := a4) (lo := 0) (hi := 8) ((pm_qe_r (tb := pm_qB) (k := 101) (i := (((5 * y4) + 3) : Int).toNat) (m := 5) (r := 3) (l := [(0, 999, 1), (0, 99, 0), (-99, 99, 0), (0, 8, 0), (0, 1, 0)]) rfl rfl (by omega)).trans rfl) ⟨by omega, by omega⟩).put 101 (((5 * y4) + 4) : Int).toNat (x := a5) (lo := 0) (hi := 1) ((pm_qe_r (tb := pm_qB) (k := 101) (i := (((5 * y4) + 4) : Int).toNat) (m := 5) (r := 4) (l := [(0, 999, 1), (0, 99, 0), (-99, 99, 0), (0, 8, 0), (0, 1, 0)]) rfl rfl (by omega)).trans rfl) ⟨by omega, by omega⟩).put 90 25 (x := (y4 + 1)) (lo := 0) (hi := 60) rfl ⟨by omega, by omega⟩), (((((((pm_fs.rf (cs := [101]) (fs := [25]) (V := V0)).up 101 ((5 * y4) : Int).toNat a1 (by decide) rfl).up 101 (((5 * y4) + 1) : Int).toNat a2 (by decide) rfl).up 101 (((5 * y4) + 2) : Int).toNat a3 (by decide) rfl).up 101 (((5 * y4) + 3) : Int).toNat a4 (by decide) rfl).up 101 (((5 * y4) + 4) : Int).toNat a5 (by decide) rfl).upf 25 (y4 + 1) rfl), (pm_h3.keep hn_pm_h3 (by assumption) (by omega) (by omega) (by omega) (by omega)), (by rw [e5]; exact pm_up_s), hT⟩ dX12_keepsAnswer_68
set_option maxHeartbeats 4000000 in
set_option maxRecDepth 100000 in
theorem fB_X12_answer (a1 a2 a3 a4 : Int) (h0 : (-2147483648) ≤ a1 ∧ a1 ≤ 2147483647) (h1 : (-2147483648) ≤ a2 ∧ a2 ≤ 2147483647) (h2 : (-2147483648) ≤ a3 ∧ a3 ≤ 2147483647) (h3 : (-2147483648) ≤ a4 ∧ a4 ≤ 2147483647) : pm_K 3 yX12_answer cX12_answer 5 (some .int) (fun av V => av = [(3, 90), (0, a1), (0, a2), (0, a3), (0, a4)] ∧ pm_oq pm_qB V ∧ pm_h3 V) (fun _ V r V' => ∃ y, r = some (0, y) ∧ ((-1) ≤ y ∧ y ≤ 60) ∧ pm_oq pm_qB V' ∧ pm_fs [101] [25] V V' ∧ pm_h3 V' ∧ F_X12_answer a1 a2 a3 a4 V = (y, V')) := by
  refine pm_MT.of (by decide) ⟨Nat.le_refl _, by decide⟩ (fun av V h => by rw [h.1]; exact (by decide : pm_words [(3, 0), (0, 0), (0, 0), (0, 0), (0, 0)] ≤ 5)) ?_
  rintro X av V0 hC - hR ⟨rfl, hV0, hn_pm_h3⟩
  change pm_J X 0 [(0, (3, 90)), (1, (0, a1)), (2, (0, a2)), (3, (0, a3)), (4, (0, a4))] [] 118 V0
  have hT := F_X12_answer_eq a1 a2 a3 a4 V0
  obtain ⟨y1, e2⟩ : ∃ y, V0 90 16 = y := ⟨_, rfl⟩
  have b3 := hV0.get 90 16 (lo := 2) (hi := 9) (by decide) (by decide) rfl
  rw [e2] at b3
  replace hT := hT.trans (pf_let_eq e2)
  obtain ⟨y4, e5⟩ : ∃ y, V0 90 25 = y := ⟨_, rfl⟩
  have b6 := hV0.get 90 25 (lo := 0) (hi := 60) (by decide) (by decide) rfl
  rw [e5] at b6
  replace hT := hT.trans (pf_let_eq e5)
  refine pm_aload_n hC 0 (by decide) dX12_answer_0 rfl ?_
  refine pm_iload_n hC 1 dX12_answer_1 rfl ?_
  refine pm_iload_n hC 2 dX12_answer_2 rfl ?_
  refine pm_iload_n hC 3 dX12_answer_3 rfl ?_
  refine pm_callV (ci := 12) (as := [(0, a1), (0, a2), (0, a3)]) (st := []) hC 90 (fB_X12_isTrial a1 a2 a3 ⟨by omega, by omega⟩ ⟨by omega, by omega⟩ ⟨by omega, by omega⟩) lm_X12_373 li_X12_isTrial (by decide) (by decide) rfl rfl rfl (by decide) rfl rfl (Nat.le_of_ble_eq_true rfl) ⟨Nat.le_refl _, Or.inl rfl⟩ dX12_answer_4 ⟨rfl, hV0⟩ (fun r7 V8 hp9 => ?_)
  obtain ⟨y10, rfl, b11, rfl, hE12⟩ := hp9
  replace hT := hT.trans (pf_call_eq hE12)
  change pm_J X 7 [(0, (3, 90)), (1, (0, a1)), (2, (0, a2)), (3, (0, a3)), (4, (0, a4))] [(0, y10)] 118 V0
  refine pm_if_eq (tgt := 45) hC ⟨by omega, by omega⟩ dX12_answer_7 (by decide) (fun c13 => ?_) (fun c13 => ?_)
  · skip
    replace hT := hT.trans (if_pos c13)
    refine pm_iconst (v := (-1)) hC dX12_answer_45 ?_
    exact pm_iret hC hR pm_nar0 ⟨(-1), rfl, ⟨by omega, by omega⟩, hV0, (pm_fs.rf (cs := [101]) (fs := [25]) (V := V0)), hn_pm_h3, hT⟩ dX12_answer_46
  · skip
    replace hT := hT.trans (if_neg c13)
    refine pm_iload hC 4 dX12_answer_10 rfl ?_
    refine pm_if_lt (tgt := 45) hC ⟨by omega, by omega⟩ dX12_answer_12 (by decide) (fun c14 => ?_) (fun c14 => ?_)
    · skip
      replace hT := hT.trans (if_pos c14)
      refine pm_iconst (v := (-1)) hC dX12_answer_45 ?_
      exact pm_iret hC hR pm_nar0 ⟨(-1), rfl, ⟨by omega, by omega⟩, hV0, (pm_fs.rf (cs := [101]) (fs := [25]) (V := V0)), hn_pm_h3, hT⟩ dX12_answer_46
    · skip
      replace hT := hT.trans (if_neg (Int.not_lt.mpr c14))
      refine pm_iload hC 4 dX12_answer_15 rfl ?_
      refine pm_bipush (v := 100) hC dX12_answer_17 (by decide) ?_
      refine pm_idiv hC ⟨by omega, by omega, by omega⟩ ⟨by decide, by decide, by decide⟩ dX12_answer_19 ?_
      refine pm_iconst (v := 1) hC dX12_answer_20 ?_
      refine pm_icmp_gt (tgt := 45) hC ⟨by omega, by omega⟩ ⟨by decide, by decide⟩ dX12_answer_21 (by decide) (fun c15 => ?_) (fun c15 => ?_)
      · skip
        replace hT := hT.trans (if_pos c15)
        refine pm_iconst (v := (-1)) hC dX12_answer_45 ?_
        exact pm_iret hC hR pm_nar0 ⟨(-1), rfl, ⟨by omega, by omega⟩, hV0, (pm_fs.rf (cs := [101]) (fs := [25]) (V := V0)), hn_pm_h3, hT⟩ dX12_answer_46
      · skip
        replace hT := hT.trans (if_neg (Int.not_lt.mpr c15))
        refine pm_iload hC 4 dX12_answer_24 rfl ?_
        refine pm_bipush (v := 100) hC dX12_answer_26 (by decide) ?_
        refine pm_irem hC ⟨by omega, by omega, by omega⟩ ⟨by decide, by decide, by decide⟩ dX12_answer_28 ?_
        refine pm_aload_n hC 0 (by decide) dX12_answer_29 rfl ?_
        refine pm_getf (v := y1) hC 90 fl_X12_220 rfl rfl (by decide) rfl e2 dX12_answer_30 ?_
        refine pm_icmp_ge (tgt := 45) hC ⟨by omega, by omega⟩ ⟨by omega, by omega⟩ dX12_answer_33 (by decide) (fun c16 => ?_) (fun c16 => ?_)
        · skip
          replace hT := hT.trans (if_pos c16)
          refine pm_iconst (v := (-1)) hC dX12_answer_45 ?_
          exact pm_iret hC hR pm_nar0 ⟨(-1), rfl, ⟨by omega, by omega⟩, hV0, (pm_fs.rf (cs := [101]) (fs := [25]) (V := V0)), hn_pm_h3, hT⟩ dX12_answer_46
        · skip
          replace hT := hT.trans (if_neg (Int.not_le.mpr c16))
          refine pm_aload_n hC 0 (by decide) dX12_answer_36 rfl ?_
          refine pm_getf (v := y4) hC 90 fl_X12_235 rfl rfl (by decide) rfl e5 dX12_answer_37 ?_
          refine pm_bipush (v := 60) hC dX12_answer_40 (by decide) ?_
          refine pm_icmp_ne (tgt := 47) hC ⟨by omega, by omega⟩ ⟨by decide, by decide⟩ dX12_answer_42 (by decide) (fun c17 => ?_) (fun c17 => ?_)
          · skip
            replace hT := hT.trans (if_pos c17)
            refine pm_aload_n hC 0 (by decide) dX12_answer_47 rfl ?_
            refine pm_iload_n hC 1 dX12_answer_48 rfl ?_
            refine pm_iload_n hC 2 dX12_answer_49 rfl ?_
            refine pm_iload_n hC 3 dX12_answer_50 rfl ?_
            refine pm_iload hC 4 dX12_answer_51 rfl ?_
            refine pm_bipush (v := 100) hC dX12_answer_53 (by decide) ?_
            refine pm_irem hC ⟨by omega, by omega, by omega⟩ ⟨by decide, by decide, by decide⟩ dX12_answer_55 ?_
            refine pm_iload hC 4 dX12_answer_56 rfl ?_
            refine pm_bipush (v := 100) hC dX12_answer_58 (by decide) ?_
            refine pm_idiv hC ⟨by omega, by omega, by omega⟩ ⟨by decide, by decide, by decide⟩ dX12_answer_60 ?_
            refine pm_callV (ci := 12) (as := [(0, a1), (0, a2), (0, a3), (0, (a4 % 100)), (0, (a4 / 100))]) (st := []) hC 90 (fB_X12_keepsAnswer a1 a2 a3 (a4 % 100) (a4 / 100) ⟨by omega, by omega⟩ ⟨by omega, by omega⟩ ⟨by omega, by omega⟩ ⟨by omega, by omega⟩ ⟨by omega, by omega⟩ (by omega)) lm_X12_399 li_X12_keepsAnswer (by decide) (by decide) rfl rfl rfl (by decide) rfl rfl (Nat.le_of_ble_eq_true rfl) ⟨Nat.le_refl _, Or.inl rfl⟩ dX12_answer_61 ⟨rfl, hV0, (show (a1) % 10 < V0 90 16 by omega), (show (a1) / 10 % 10 < V0 90 16 by omega), (show ((a4 % 100)) < V0 90 16 by omega), (show V0 90 25 ≤ 59 by omega), hn_pm_h3⟩ (fun r18 V19 hp20 => ?_)
            obtain ⟨rfl, hV21, hF22, hg23, hxp24, hE25⟩ := hp20
            replace hT := hT.trans (pf_call_eq hE25)
            change pm_J X 64 [(0, (3, 90)), (1, (0, a1)), (2, (0, a2)), (3, (0, a3)), (4, (0, a4))] [] 118 V19
            have hF26 := pm_fs.tr (pm_fs.rf (cs := [101]) (fs := [25]) (V := V0)) hF22 (by decide) (by decide)
            have e27 : V19 90 16 = y1 := by rw [hF22.2 16 (by decide)]; exact e2
            refine pm_aload_n hC 0 (by decide) dX12_answer_64 rfl ?_
            obtain ⟨y28, e29⟩ : ∃ y, V19 90 25 = y := ⟨_, rfl⟩
            have b30 := hV21.get 90 25 (lo := 0) (hi := 60) (by decide) (by decide) rfl
            rw [e29] at b30
            replace hT := hT.trans (pf_let_eq e29)
            refine pm_getf (v := y28) hC 90 fl_X12_235 rfl rfl (by decide) rfl e29 dX12_answer_65 ?_
            exact pm_iret hC hR pm_nar0 ⟨y28, rfl, ⟨by omega, by omega⟩, hV21, hF26, hg23, hT⟩ dX12_answer_68
          · skip
            replace hT := hT.trans (if_neg (fun q => q c17))
            refine pm_iconst (v := (-1)) hC dX12_answer_45 ?_
            exact pm_iret hC hR pm_nar0 ⟨(-1), rfl, ⟨by omega, by omega⟩, hV0, (pm_fs.rf (cs := [101]) (fs := [25]) (V := V0)), hn_pm_h3, hT⟩ dX12_answer_46
set_option maxHeartbeats 4000000 in
set_option maxRecDepth 100000 in
theorem fB_X12_of (a1 a2 : Int) (h0 : (-2147483648) ≤ a1 ∧ a1 ≤ 2147483647) (h1 : (-2147483648) ≤ a2 ∧ a2 ≤ 2147483647) : pm_K 4 yX12_of cX12_of 3 (some .int) (fun av V => av = [(3, 90), (0, a1), (0, a2)] ∧ pm_oq pm_qB V ∧ pm_h1 V ∧ pm_h3 V) (fun _ V r V' => ∃ y, r = some (0, y) ∧ ((-2147483648) ≤ y ∧ y ≤ 999) ∧ pm_oq pm_qB V' ∧ pm_fs [110, 111] [42, 43, 44, 45, 46, 47, 48, 49] V V' ∧ F_X12_of a1 a2 V = (y, V')) := by
  refine pm_MT.of (by decide) ⟨Nat.le_refl _, by decide⟩ (fun av V h => by rw [h.1]; exact (by decide : pm_words [(3, 0), (0, 0), (0, 0)] ≤ 3)) ?_
  rintro X av V0 hC - hR ⟨rfl, hV0, hn_pm_h1, hn_pm_h3⟩
  change pm_J X 0 [(0, (3, 90)), (1, (0, a1)), (2, (0, a2))] [] 118 V0
  have hT := F_X12_of_eq a1 a2 V0
  obtain ⟨y1, e2⟩ : ∃ y, V0 90 25 = y := ⟨_, rfl⟩
  have b3 := hV0.get 90 25 (lo := 0) (hi := 60) (by decide) (by decide) rfl
  rw [e2] at b3
  replace hT := hT.trans (pf_let_eq e2)
  refine pm_iload_n hC 1 dX12_of_0 rfl ?_
  refine pm_iconst (v := 0) hC dX12_of_1 ?_
  refine pm_aload_n hC 0 (by decide) dX12_of_2 rfl ?_
  refine pm_getf (v := y1) hC 90 fl_X12_235 rfl rfl (by decide) rfl e2 dX12_of_3 ?_
  refine pm_iconst (v := 1) hC dX12_of_6 ?_
  refine pm_isub hC dX12_of_7 ?_
  refine pm_callS (as := [(0, a1), (0, 0), (0, (y1 - 1))]) (st := []) hC (fB_X12_in a1 0 (y1 - 1) ⟨by omega, by omega⟩ ⟨by decide, by decide⟩ ⟨by omega, by omega⟩) lm_X12_98 ls_X12_in (by decide) (by decide) rfl rfl (Nat.le_of_ble_eq_true rfl) ⟨Nat.le_refl _, Or.inl rfl⟩ dX12_of_8 ⟨rfl, hV0⟩ (fun r4 V5 hp6 => ?_)
  obtain ⟨y7, rfl, b8, rfl, hE9⟩ := hp6
  replace hT := hT.trans (pf_call_eq hE9)
  change pm_J X 11 [(0, (3, 90)), (1, (0, a1)), (2, (0, a2))] [(0, y7)] 118 V0
  refine pm_if_eq (tgt := 23) hC ⟨by omega, by omega⟩ dX12_of_11 (by decide) (fun c10 => ?_) (fun c10 => ?_)
  · skip
    replace hT := hT.trans (if_pos c10)
    refine pm_ldcw (v := (-2147483648)) hC 7000 dX12_of_23 (by decide +kernel) ?_
    exact pm_iret hC hR pm_nar0 ⟨(-2147483648), rfl, ⟨by omega, by omega⟩, hV0, (pm_fs.rf (cs := [110, 111]) (fs := [42, 43, 44, 45, 46, 47, 48, 49]) (V := V0)), hT⟩ dX12_of_26
  · skip
    replace hT := hT.trans (if_neg c10)
    refine pm_iload_n hC 2 dX12_of_14 rfl ?_
    refine pm_iconst (v := 0) hC dX12_of_15 ?_
    refine pm_iconst (v := 5) hC dX12_of_16 ?_
    refine pm_callS (as := [(0, a2), (0, 0), (0, 5)]) (st := []) hC (fB_X12_in a2 0 5 ⟨by omega, by omega⟩ ⟨by decide, by decide⟩ ⟨by decide, by decide⟩) lm_X12_98 ls_X12_in (by decide) (by decide) rfl rfl (Nat.le_of_ble_eq_true rfl) ⟨Nat.le_refl _, Or.inl rfl⟩ dX12_of_17 ⟨rfl, hV0⟩ (fun r11 V12 hp13 => ?_)
    obtain ⟨y14, rfl, b15, rfl, hE16⟩ := hp13
    replace hT := hT.trans (pf_call_eq hE16)
    change pm_J X 20 [(0, (3, 90)), (1, (0, a1)), (2, (0, a2))] [(0, y14)] 118 V0
    refine pm_if_ne (tgt := 27) hC ⟨by omega, by omega⟩ dX12_of_20 (by decide) (fun c17 => ?_) (fun c17 => ?_)
    · skip
      replace hT := hT.trans (if_pos c17)
      refine pm_iload_n hC 2 dX12_of_27 rfl ?_
      refine pm_iconst (v := 5) hC dX12_of_28 ?_
      refine pm_icmp_ge (tgt := 43) hC ⟨by omega, by omega⟩ ⟨by decide, by decide⟩ dX12_of_29 (by decide) (fun c18 => ?_) (fun c18 => ?_)
      · skip
        replace hT := hT.trans (if_pos c18)
        refine pm_aload_n hC 0 (by decide) dX12_of_43 rfl ?_
        refine pm_iload_n hC 1 dX12_of_44 rfl ?_
        refine pm_callV (ci := 12) (as := [(0, a1)]) (st := []) hC 90 (fB_X12_worksAnswer a1 ⟨by omega, by omega⟩) lm_X12_403 li_X12_worksAnswer (by decide) (by decide) rfl rfl rfl (by decide) rfl rfl (Nat.le_of_ble_eq_true rfl) ⟨Nat.le_refl _, Or.inl rfl⟩ dX12_of_45 ⟨rfl, hV0, (show (a1) < V0 90 25 by omega), hn_pm_h1, hn_pm_h3⟩ (fun r19 V20 hp21 => ?_)
        obtain ⟨rfl, hV22, hF23, hq24, hq25, hg26, hg27, hE28⟩ := hp21
        replace hT := hT.trans (pf_call_eq hE28)
        change pm_J X 48 [(0, (3, 90)), (1, (0, a1)), (2, (0, a2))] [] 118 V20
        have hF29 := pm_fs.tr (pm_fs.rf (cs := [110, 111]) (fs := [42, 43, 44, 45, 46, 47, 48, 49]) (V := V0)) hF23 (by decide) (by decide)
        have e30 : V20 90 25 = y1 := by rw [hF23.2 25 (by decide)]; exact e2
        have hp31 : pm_h1 V20 := (pm_h1.fr hn_pm_h1 (hF23.2 16 (by decide)) (hF23.1 97 (by decide) (by decide)))
        have hp32 : pm_h3 V20 := (pm_h3.fr hn_pm_h3 (hF23.2 16 (by decide)) (hF23.2 25 (by decide)) (hF23.1 101 (by decide) (by decide)))
        obtain ⟨z33, ez34⟩ : ∃ z, V20 90 42 = z := ⟨_, rfl⟩
        rw [ez34] at hq24
        replace hT := hT.trans (pf_let_eq ez34)
        obtain ⟨z35, ez36⟩ : ∃ z, V20 90 43 = z := ⟨_, rfl⟩
        rw [ez36] at hq25
        replace hT := hT.trans (pf_let_eq ez36)
        refine pm_aload_n hC 0 (by decide) dX12_of_48 rfl ?_
        refine pm_aload_n hC 0 (by decide) dX12_of_49 rfl ?_
        have e37 : V20 90 26 = 101 := hV22.one 90 26 (by decide) (by decide) rfl
        refine pm_getf (v := 101) hC 90 fl_X12_43 rfl rfl (by decide) rfl e37 dX12_of_50 ?_
        refine pm_iconst (v := 5) hC dX12_of_53 ?_
        refine pm_iload_n hC 1 dX12_of_54 rfl ?_
        refine pm_imul hC dX12_of_55 ?_
        refine pm_iconst (v := 3) hC dX12_of_56 ?_
        refine pm_iadd hC dX12_of_57 ?_
        obtain ⟨y38, e39⟩ : ∃ y, V20 101 (((5 * a1) + 3) : Int).toNat = y := ⟨_, rfl⟩
        replace hT := hT.trans (pf_let_eq e39)
        have b40 := hV22.get 101 (((5 * a1) + 3) : Int).toNat (lo := 0) (hi := 8) (t := 0) (by decide) (show _ < 300 by omega) ((pm_qe_r (tb := pm_qB) (k := 101) (i := (((5 * a1) + 3) : Int).toNat) (m := 5) (r := 3) (l := [(0, 999, 1), (0, 99, 0), (-99, 99, 0), (0, 8, 0), (0, 1, 0)]) rfl rfl (by omega)).trans rfl)
        rw [e39] at b40
        refine pm_iaload (len := 300) (v := y38) hC 101 rfl rfl (by decide) ⟨by omega, by omega⟩ (by decide) e39 dX12_of_58 ?_
        refine pm_callV (ci := 12) (as := [(0, y38)]) (st := []) hC 90 (fB_X12_kindOf y38 ⟨by omega, by omega⟩) lm_X12_367 li_X12_kindOf (by decide) (by decide) rfl rfl rfl (by decide) rfl rfl (Nat.le_of_ble_eq_true rfl) ⟨Nat.le_refl _, Or.inl rfl⟩ dX12_of_59 ⟨rfl, hV22⟩ (fun r41 V42 hp43 => ?_)
        obtain ⟨y44, rfl, b45, rfl, hE46⟩ := hp43
        replace hT := hT.trans (pf_call_eq hE46)
        change pm_J X 62 [(0, (3, 90)), (1, (0, a1)), (2, (0, a2))] [(0, y44)] 118 V20
        exact pm_iret hC hR pm_nar0 ⟨y44, rfl, ⟨by omega, by omega⟩, hV22, hF29, hT⟩ dX12_of_62
      · skip
        replace hT := hT.trans (if_neg (Int.not_le.mpr c18))
        refine pm_aload_n hC 0 (by decide) dX12_of_32 rfl ?_
        have e47 : V0 90 26 = 101 := hV0.one 90 26 (by decide) (by decide) rfl
        refine pm_getf (v := 101) hC 90 fl_X12_43 rfl rfl (by decide) rfl e47 dX12_of_33 ?_
        refine pm_iconst (v := 5) hC dX12_of_36 ?_
        refine pm_iload_n hC 1 dX12_of_37 rfl ?_
        refine pm_imul hC dX12_of_38 ?_
        refine pm_iload_n hC 2 dX12_of_39 rfl ?_
        refine pm_iadd hC dX12_of_40 ?_
        obtain ⟨y48, e49⟩ : ∃ y, V0 101 (((5 * a1) + a2) : Int).toNat = y := ⟨_, rfl⟩
        replace hT := hT.trans (pf_let_eq e49)
        have be51 := hV0 101 (by decide) (by decide) (((5 * a1) + a2) : Int).toNat (show _ < 300 by omega)
        rw [e49] at be51
        have b50 : (-99) ≤ y48 ∧ y48 ≤ 999 := pm_qhull be51 rfl rfl (by decide)
        refine pm_iaload (len := 300) (v := y48) hC 101 rfl rfl (by decide) ⟨by omega, by omega⟩ (by decide) e49 dX12_of_41 ?_
        exact pm_iret hC hR pm_nar0 ⟨y48, rfl, ⟨by omega, by omega⟩, hV0, (pm_fs.rf (cs := [110, 111]) (fs := [42, 43, 44, 45, 46, 47, 48, 49]) (V := V0)), hT⟩ dX12_of_42
    · skip
      replace hT := hT.trans (if_neg (fun q => q c17))
      refine pm_ldcw (v := (-2147483648)) hC 7000 dX12_of_23 (by decide +kernel) ?_
      exact pm_iret hC hR pm_nar0 ⟨(-2147483648), rfl, ⟨by omega, by omega⟩, hV0, (pm_fs.rf (cs := [110, 111]) (fs := [42, 43, 44, 45, 46, 47, 48, 49]) (V := V0)), hT⟩ dX12_of_26
