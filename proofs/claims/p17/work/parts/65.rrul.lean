noncomputable def F_X12_lays (a1 a2 : Int) (V0 : pm_M) : Int × pm_M := pf_let (V0 90 33) fun z0 => (0, (pm_up (pm_up (pm_up V0 107 ((2 * z0) : Int).toNat a1) 107 (((2 * z0) + 1) : Int).toNat a2) 90 33 (z0 + 1)))
theorem F_X12_lays_eq (a1 a2 : Int) (V0 : pm_M) : F_X12_lays a1 a2 V0 = pf_let (V0 90 33) fun z0 => (0, (pm_up (pm_up (pm_up V0 107 ((2 * z0) : Int).toNat a1) 107 (((2 * z0) + 1) : Int).toNat a2) 90 33 (z0 + 1))) := rfl
noncomputable def F_X12_rank (a1 : Int) (V0 : pm_M) : Int × pm_M := (if ¬ (a1 = 4) then ((if a1 = 2 then ((1, V0)) else ((if ¬ (a1 = 3) then ((0, V0)) else ((1, V0)))))) else ((2, V0)))
theorem F_X12_rank_eq (a1 : Int) (V0 : pm_M) : F_X12_rank a1 V0 = (if ¬ (a1 = 4) then ((if a1 = 2 then ((1, V0)) else ((if ¬ (a1 = 3) then ((0, V0)) else ((1, V0)))))) else ((2, V0))) := rfl
noncomputable def F_X12_empties (a1 : Int) (V0 : pm_M) : Int × pm_M := pf_let (V0 90 33) fun y1 => pf_let (V0 90 39) fun y4 => pf_val ((0 : Int), V0) (fun (q : pm_M) => match q with | V7 => (pf_let (V7 90 33) fun y18 => pf_let (V7 90 39) fun y21 => (if y21 ≤ 0 then ((.inr (0, V7))) else (pf_let (V7 109 ((y21 - 1) : Int).toNat) fun y26 => (if y26 = (-1) then ((.inr (0, V7))) else (pf_call (F_X12_rank y26 V7) fun y33 _ => (if y33 < a1 then ((.inr (0, V7))) else (pf_let ((pm_up V7 90 39 (y21 - 1))) fun V37 => pf_call (F_X12_lays y26 0 V37) fun _ V45 => pf_let (V45 90 33) fun y55 => (.inl V45))))))))) V0
theorem F_X12_empties_eq (a1 : Int) (V0 : pm_M) : F_X12_empties a1 V0 = pf_let (V0 90 33) fun y1 => pf_let (V0 90 39) fun y4 => pf_val ((0 : Int), V0) (fun (q : pm_M) => match q with | V7 => (pf_let (V7 90 33) fun y18 => pf_let (V7 90 39) fun y21 => (if y21 ≤ 0 then ((.inr (0, V7))) else (pf_let (V7 109 ((y21 - 1) : Int).toNat) fun y26 => (if y26 = (-1) then ((.inr (0, V7))) else (pf_call (F_X12_rank y26 V7) fun y33 _ => (if y33 < a1 then ((.inr (0, V7))) else (pf_let ((pm_up V7 90 39 (y21 - 1))) fun V37 => pf_call (F_X12_lays y26 0 V37) fun _ V45 => pf_let (V45 90 33) fun y55 => (.inl V45))))))))) V0 := rfl
noncomputable def F_X12_nameHere (V0 : pm_M) : Int × pm_M := pf_let (V0 90 3) fun y1 => pf_call (F_X12_isWord 6 V0) fun y7 _ => (if y7 = 0 then (pf_call (F_X12_isWord 7 V0) fun y14 _ => (if y14 = 0 then (pf_call (F_X12_isWord 1 V0) fun y21 _ => (if y21 = 0 then (pf_call (F_X12_isWord 2 V0) fun y28 _ => (if y28 = 0 then (pf_call (F_X12_isWord 8 V0) fun y35 _ => (if y35 = 0 then (pf_call (F_X12_isWord 9 V0) fun y42 _ => (if y42 = 0 then (pf_call (F_X12_isWord 10 V0) fun y49 _ => (if y49 = 0 then (((-1), V0)) else ((6, V0)))) else ((5, V0)))) else ((4, V0)))) else ((3, V0)))) else ((2, V0)))) else ((1, V0)))) else ((0, V0)))
theorem F_X12_nameHere_eq (V0 : pm_M) : F_X12_nameHere V0 = pf_let (V0 90 3) fun y1 => pf_call (F_X12_isWord 6 V0) fun y7 _ => (if y7 = 0 then (pf_call (F_X12_isWord 7 V0) fun y14 _ => (if y14 = 0 then (pf_call (F_X12_isWord 1 V0) fun y21 _ => (if y21 = 0 then (pf_call (F_X12_isWord 2 V0) fun y28 _ => (if y28 = 0 then (pf_call (F_X12_isWord 8 V0) fun y35 _ => (if y35 = 0 then (pf_call (F_X12_isWord 9 V0) fun y42 _ => (if y42 = 0 then (pf_call (F_X12_isWord 10 V0) fun y49 _ => (if y49 = 0 then (((-1), V0)) else ((6, V0)))) else ((5, V0)))) else ((4, V0)))) else ((3, V0)))) else ((2, V0)))) else ((1, V0)))) else ((0, V0))) := rfl
set_option maxHeartbeats 4000000 in
set_option maxRecDepth 100000 in
theorem fP_X12_lays (a1 a2 : Int) (h0 : 0 ≤ a1 ∧ a1 ≤ 7) (h1 : 0 ≤ a2 ∧ a2 ≤ 9999) : pm_K 1 yX12_lays cX12_lays 3 none (fun av V => av = [(3, 90), (0, a1), (0, a2)] ∧ pm_oq pm_qP V ∧ (0 ≤ V 90 33 ∧ V 90 33 ≤ 599)) (fun _ V r V' => r = none ∧ pm_oq pm_qP V' ∧ pm_fs [107] [33] V V' ∧ (V' 90 33 = V 90 33 + 1) ∧ F_X12_lays a1 a2 V = (0, V')) := by
  refine pm_MT.of (by decide) ⟨Nat.le_refl _, by decide⟩ (fun av V h => by rw [h.1]; exact (by decide : pm_words [(3, 0), (0, 0), (0, 0)] ≤ 3)) ?_
  rintro X av V0 hC - hR ⟨rfl, hV0, hq0⟩
  change pm_J X 0 [(0, (3, 90)), (1, (0, a1)), (2, (0, a2))] [] 118 V0
  have hT := F_X12_lays_eq a1 a2 V0
  obtain ⟨z0, ez0⟩ : ∃ z, V0 90 33 = z := ⟨_, rfl⟩
  rw [ez0] at hq0
  replace hT := hT.trans (pf_let_eq ez0)
  refine pm_aload_n hC 0 (by decide) dX12_lays_0 rfl ?_
  have e1 : V0 90 34 = 107 := hV0.one 90 34 (by decide) (by decide) rfl
  refine pm_getf (v := 107) hC 90 fl_X12_61 rfl rfl (by decide) rfl e1 dX12_lays_1 ?_
  refine pm_iconst (v := 2) hC dX12_lays_4 ?_
  refine pm_aload_n hC 0 (by decide) dX12_lays_5 rfl ?_
  refine pm_getf (v := z0) hC 90 fl_X12_238 rfl rfl (by decide) rfl ez0 dX12_lays_6 ?_
  refine pm_imul hC dX12_lays_9 ?_
  refine pm_iload_n hC 1 dX12_lays_10 rfl ?_
  refine pm_iastore (len := 1200) hC 107 rfl rfl (by decide) ⟨by omega, by omega⟩ (by decide) dX12_lays_11 ?_
  refine pm_aload_n hC 0 (by decide) dX12_lays_12 rfl ?_
  refine pm_getf (v := 107) hC 90 fl_X12_61 rfl rfl (by decide) rfl e1 dX12_lays_13 ?_
  refine pm_iconst (v := 2) hC dX12_lays_16 ?_
  refine pm_aload_n hC 0 (by decide) dX12_lays_17 rfl ?_
  refine pm_getf (v := z0) hC 90 fl_X12_238 rfl rfl (by decide) rfl ez0 dX12_lays_18 ?_
  refine pm_imul hC dX12_lays_21 ?_
  refine pm_iconst (v := 1) hC dX12_lays_22 ?_
  refine pm_iadd hC dX12_lays_23 ?_
  refine pm_iload_n hC 2 dX12_lays_24 rfl ?_
  refine pm_iastore (len := 1200) hC 107 rfl rfl (by decide) ⟨by omega, by omega⟩ (by decide) dX12_lays_25 ?_
  refine pm_aload_n hC 0 (by decide) dX12_lays_26 rfl ?_
  refine pm_dup hC rfl dX12_lays_27 ?_
  refine pm_getf (v := z0) hC 90 fl_X12_238 rfl rfl (by decide) rfl ez0 dX12_lays_28 ?_
  refine pm_iconst (v := 1) hC dX12_lays_31 ?_
  refine pm_iadd hC dX12_lays_32 ?_
  refine pm_putf hC 90 fl_X12_238 rfl rfl rfl (by decide) rfl trivial dX12_lays_33 ?_
  exact pm_vret hC hR ⟨rfl, (((hV0.put 107 ((2 * z0) : Int).toNat (x := a1) (lo := 0) (hi := 7) ((pm_qe_r (tb := pm_qP) (k := 107) (i := ((2 * z0) : Int).toNat) (m := 2) (r := 0) (l := [(0, 7, 0), (0, 9999, 0)]) rfl rfl (by omega)).trans rfl) ⟨by omega, by omega⟩).put 107 (((2 * z0) + 1) : Int).toNat (x := a2) (lo := 0) (hi := 9999) ((pm_qe_r (tb := pm_qP) (k := 107) (i := (((2 * z0) + 1) : Int).toNat) (m := 2) (r := 1) (l := [(0, 7, 0), (0, 9999, 0)]) rfl rfl (by omega)).trans rfl) ⟨by omega, by omega⟩).put 90 33 (x := (z0 + 1)) (lo := 0) (hi := 600) rfl ⟨by omega, by omega⟩), ((((pm_fs.rf (cs := [107]) (fs := [33]) (V := V0)).up 107 ((2 * z0) : Int).toNat a1 (by decide) rfl).up 107 (((2 * z0) + 1) : Int).toNat a2 (by decide) rfl).upf 33 (z0 + 1) rfl), (by rw [ez0]; rfl), hT⟩ dX12_lays_36
set_option maxHeartbeats 4000000 in
set_option maxRecDepth 100000 in
theorem fP_X12_rank (a1 : Int) (h0 : (-2147483648) ≤ a1 ∧ a1 ≤ 2147483647) : pm_K 1 yX12_rank cX12_rank 1 (some .int) (fun av V => av = [(0, a1)] ∧ pm_oq pm_qP V) (fun _ V r V' => ∃ y, r = some (0, y) ∧ (0 ≤ y ∧ y ≤ 2) ∧ V = V' ∧ F_X12_rank a1 V = (y, V)) := by
  refine pm_MT.of (by decide) ⟨Nat.le_refl _, by decide⟩ (fun av V h => by rw [h.1]; exact (by decide : pm_words [(0, 0)] ≤ 1)) ?_
  rintro X av V0 hC - hR ⟨rfl, hV0⟩
  change pm_J X 0 [(0, (0, a1))] [] 118 V0
  have hT := F_X12_rank_eq a1 V0
  refine pm_iload_n hC 0 dX12_rank_0 rfl ?_
  refine pm_iconst (v := 4) hC dX12_rank_1 ?_
  refine pm_icmp_ne (tgt := 9) hC ⟨by omega, by omega⟩ ⟨by decide, by decide⟩ dX12_rank_2 (by decide) (fun c1 => ?_) (fun c1 => ?_)
  · skip
    replace hT := hT.trans (if_pos c1)
    refine pm_iload_n hC 0 dX12_rank_9 rfl ?_
    refine pm_iconst (v := 2) hC dX12_rank_10 ?_
    refine pm_icmp_eq (tgt := 19) hC ⟨by omega, by omega⟩ ⟨by decide, by decide⟩ dX12_rank_11 (by decide) (fun c2 => ?_) (fun c2 => ?_)
    · skip
      replace hT := hT.trans (if_pos c2)
      refine pm_iconst (v := 1) hC dX12_rank_19 ?_
      refine pm_goto (tgt := 24) hC dX12_rank_20 (by decide) ?_
      exact pm_iret hC hR pm_nar0 ⟨1, rfl, ⟨by omega, by omega⟩, rfl, hT⟩ dX12_rank_24
    · skip
      replace hT := hT.trans (if_neg c2)
      refine pm_iload_n hC 0 dX12_rank_14 rfl ?_
      refine pm_iconst (v := 3) hC dX12_rank_15 ?_
      refine pm_icmp_ne (tgt := 23) hC ⟨by omega, by omega⟩ ⟨by decide, by decide⟩ dX12_rank_16 (by decide) (fun c3 => ?_) (fun c3 => ?_)
      · skip
        replace hT := hT.trans (if_pos c3)
        refine pm_iconst (v := 0) hC dX12_rank_23 ?_
        exact pm_iret hC hR pm_nar0 ⟨0, rfl, ⟨by omega, by omega⟩, rfl, hT⟩ dX12_rank_24
      · skip
        replace hT := hT.trans (if_neg (fun q => q c3))
        refine pm_iconst (v := 1) hC dX12_rank_19 ?_
        refine pm_goto (tgt := 24) hC dX12_rank_20 (by decide) ?_
        exact pm_iret hC hR pm_nar0 ⟨1, rfl, ⟨by omega, by omega⟩, rfl, hT⟩ dX12_rank_24
  · skip
    replace hT := hT.trans (if_neg (fun q => q c1))
    refine pm_iconst (v := 2) hC dX12_rank_5 ?_
    refine pm_goto (tgt := 24) hC dX12_rank_6 (by decide) ?_
    exact pm_iret hC hR pm_nar0 ⟨2, rfl, ⟨by omega, by omega⟩, rfl, hT⟩ dX12_rank_24
set_option maxHeartbeats 4000000 in
set_option maxRecDepth 100000 in
theorem fP_X12_empties (a1 : Int) (h0 : 0 ≤ a1 ∧ a1 ≤ 7) : pm_K 2 yX12_empties cX12_empties 2 none (fun av V => av = [(3, 90), (0, a1)] ∧ pm_oq pm_qP V ∧ (V 90 33 + V 90 39 ≤ 600)) (fun _ V r V' => r = none ∧ pm_oq pm_qP V' ∧ pm_fs [107] [33, 39] V V' ∧ F_X12_empties a1 V = (0, V')) := by
  refine pm_MT.of (by decide) ⟨Nat.le_refl _, by decide⟩ (fun av V h => by rw [h.1]; exact (by decide : pm_words [(3, 0), (0, 0)] ≤ 2)) ?_
  rintro X av V0 hC - hR ⟨rfl, hV0, hmp0⟩
  change pm_J X 0 [(0, (3, 90)), (1, (0, a1))] [] 118 V0
  have hT := F_X12_empties_eq a1 V0
  obtain ⟨y1, e2⟩ : ∃ y, V0 90 33 = y := ⟨_, rfl⟩
  have b3 := hV0.get 90 33 (lo := 0) (hi := 600) (by decide) (by decide) rfl
  rw [e2] at b3
  replace hT := hT.trans (pf_let_eq e2)
  obtain ⟨y4, e5⟩ : ∃ y, V0 90 39 = y := ⟨_, rfl⟩
  have b6 := hV0.get 90 39 (lo := 0) (hi := 600) (by decide) (by decide) rfl
  rw [e5] at b6
  replace hT := hT.trans (pf_let_eq e5)
  obtain ⟨B11, hB12, hT⟩ := pf_loop hT
  have L14 : ∀ (N16 : Nat) (V7 : pm_M), pm_oq pm_qP V7 → pm_fs [107] [33, 39] V0 V7 → (V7 90 33 + V7 90 39 ≤ 600) → F_X12_empties a1 V0 = pf_val ((0 : Int), V0) B11 V7 → (Int.toNat (V7 90 39)) = N16 → pm_J X 0 [(0, (3, 90)), (1, (0, a1))] [] 118 V7 := by
    intro N16
    induction N16 using Nat.strongRecOn with
    | _ N16 ih17 =>
    intro V7 hV8 hF9 hx10 hT hm15
    have hb13 := congrFun hB12 V7
    obtain ⟨y18, e19⟩ : ∃ y, V7 90 33 = y := ⟨_, rfl⟩
    have b20 := hV8.get 90 33 (lo := 0) (hi := 600) (by decide) (by decide) rfl
    rw [e19] at b20
    replace hb13 := hb13.trans (pf_let_eq e19)
    refine pm_aload_n hC 0 (by decide) dX12_empties_0 rfl ?_
    obtain ⟨y21, e22⟩ : ∃ y, V7 90 39 = y := ⟨_, rfl⟩
    have b23 := hV8.get 90 39 (lo := 0) (hi := 600) (by decide) (by decide) rfl
    rw [e22] at b23
    replace hb13 := hb13.trans (pf_let_eq e22)
    refine pm_getf (v := y21) hC 90 fl_X12_241 rfl rfl (by decide) rfl e22 dX12_empties_1 ?_
    refine pm_if_le (tgt := 67) hC ⟨by omega, by omega⟩ dX12_empties_4 (by decide) (fun c24 => ?_) (fun c24 => ?_)
    · skip
      replace hb13 := hb13.trans (if_pos c24)
      have hT := hT.trans (pf_val_inr hb13)
      exact pm_vret hC hR ⟨rfl, hV8, hF9, hT⟩ dX12_empties_67
    · skip
      replace hb13 := hb13.trans (if_neg (Int.not_le.mpr c24))
      refine pm_aload_n hC 0 (by decide) dX12_empties_7 rfl ?_
      have e25 : V7 90 38 = 109 := hV8.one 90 38 (by decide) (by decide) rfl
      refine pm_getf (v := 109) hC 90 fl_X12_67 rfl rfl (by decide) rfl e25 dX12_empties_8 ?_
      refine pm_aload_n hC 0 (by decide) dX12_empties_11 rfl ?_
      refine pm_getf (v := y21) hC 90 fl_X12_241 rfl rfl (by decide) rfl e22 dX12_empties_12 ?_
      refine pm_iconst (v := 1) hC dX12_empties_15 ?_
      refine pm_isub hC dX12_empties_16 ?_
      obtain ⟨y26, e27⟩ : ∃ y, V7 109 ((y21 - 1) : Int).toNat = y := ⟨_, rfl⟩
      replace hb13 := hb13.trans (pf_let_eq e27)
      have b28 := hV8.get 109 ((y21 - 1) : Int).toNat (lo := (-1)) (hi := 7) (t := 0) (by decide) (show _ < 600 by omega) rfl
      rw [e27] at b28
      refine pm_iaload (len := 600) (v := y26) hC 109 rfl rfl (by decide) ⟨by omega, by omega⟩ (by decide) e27 dX12_empties_17 ?_
      refine pm_iconst (v := (-1)) hC dX12_empties_18 ?_
      refine pm_icmp_eq (tgt := 67) hC ⟨by omega, by omega⟩ ⟨by decide, by decide⟩ dX12_empties_19 (by decide) (fun c29 => ?_) (fun c29 => ?_)
      · skip
        replace hb13 := hb13.trans (if_pos c29)
        have hT := hT.trans (pf_val_inr hb13)
        exact pm_vret hC hR ⟨rfl, hV8, hF9, hT⟩ dX12_empties_67
      · skip
        replace hb13 := hb13.trans (if_neg c29)
        refine pm_aload_n hC 0 (by decide) dX12_empties_22 rfl ?_
        refine pm_getf (v := 109) hC 90 fl_X12_67 rfl rfl (by decide) rfl e25 dX12_empties_23 ?_
        refine pm_aload_n hC 0 (by decide) dX12_empties_26 rfl ?_
        refine pm_getf (v := y21) hC 90 fl_X12_241 rfl rfl (by decide) rfl e22 dX12_empties_27 ?_
        refine pm_iconst (v := 1) hC dX12_empties_30 ?_
        refine pm_isub hC dX12_empties_31 ?_
        refine pm_iaload (len := 600) (v := y26) hC 109 rfl rfl (by decide) ⟨by omega, by omega⟩ (by decide) e27 dX12_empties_32 ?_
        refine pm_callS (as := [(0, y26)]) (st := []) hC (fP_X12_rank y26 ⟨by omega, by omega⟩) lm_X12_244 ls_X12_rank (by decide) (by decide) rfl rfl (Nat.le_of_ble_eq_true rfl) ⟨Nat.le_refl _, Or.inl rfl⟩ dX12_empties_33 ⟨rfl, hV8⟩ (fun r30 V31 hp32 => ?_)
        obtain ⟨y33, rfl, b34, rfl, hE35⟩ := hp32
        replace hb13 := hb13.trans (pf_call_eq hE35)
        change pm_J X 36 [(0, (3, 90)), (1, (0, a1))] [(0, y33)] 118 V7
        refine pm_iload_n hC 1 dX12_empties_36 rfl ?_
        refine pm_icmp_lt (tgt := 67) hC ⟨by omega, by omega⟩ ⟨by omega, by omega⟩ dX12_empties_37 (by decide) (fun c36 => ?_) (fun c36 => ?_)
        · skip
          replace hb13 := hb13.trans (if_pos c36)
          have hT := hT.trans (pf_val_inr hb13)
          exact pm_vret hC hR ⟨rfl, hV8, hF9, hT⟩ dX12_empties_67
        · skip
          replace hb13 := hb13.trans (if_neg (Int.not_lt.mpr c36))
          refine pm_aload_n hC 0 (by decide) dX12_empties_40 rfl ?_
          refine pm_dup hC rfl dX12_empties_41 ?_
          refine pm_getf (v := y21) hC 90 fl_X12_241 rfl rfl (by decide) rfl e22 dX12_empties_42 ?_
          refine pm_iconst (v := 1) hC dX12_empties_45 ?_
          refine pm_isub hC dX12_empties_46 ?_
          refine pm_putf hC 90 fl_X12_241 rfl rfl rfl (by decide) rfl trivial dX12_empties_47 ?_
          refine pm_aload_n hC 0 (by decide) dX12_empties_50 rfl ?_
          refine pm_aload_n hC 0 (by decide) dX12_empties_51 rfl ?_
          refine pm_getf (v := 109) hC 90 fl_X12_67 rfl rfl (by decide) rfl e25 dX12_empties_52 ?_
          refine pm_aload_n hC 0 (by decide) dX12_empties_55 rfl ?_
          refine pm_getf (v := (y21 - 1)) hC 90 fl_X12_241 rfl rfl (by decide) rfl rfl dX12_empties_56 ?_
          refine pm_iaload (len := 600) (v := y26) hC 109 rfl rfl (by decide) ⟨by omega, by omega⟩ (by decide) e27 dX12_empties_59 ?_
          refine pm_iconst (v := 0) hC dX12_empties_60 ?_
          have hV39 := (hV8.put 90 39 (x := (y21 - 1)) (lo := 0) (hi := 600) rfl ⟨by omega, by omega⟩)
          have hF40 := (hF9.upf 39 (y21 - 1) rfl)
          obtain ⟨V37, hv38⟩ : ∃ V, V = (pm_up V7 90 39 (y21 - 1)) := ⟨_, rfl⟩
          rw [← hv38] at hV39 hF40
          rw [← hv38]
          replace hb13 := hb13.trans (pf_let_eq hv38.symm)
          have e41 : V37 90 33 = y18 := by rw [hv38]; exact e19
          have e42 : V37 90 38 = 109 := by rw [hv38]; exact e25
          have e43 : V37 90 39 = (y21 - 1) := by rw [hv38]; rfl
          have q47 : 0 ≤ V37 90 33 ∧ V37 90 33 ≤ 599 := by (have e : V37 90 33 = y18 := e41); rw [e]; exact ⟨by omega, by omega⟩
          refine pm_callV (ci := 12) (as := [(0, y26), (0, 0)]) (st := []) hC 90 (fP_X12_lays y26 0 ⟨by omega, by omega⟩ ⟨by decide, by decide⟩) lm_X12_248 li_X12_lays (by decide) (by decide) rfl rfl rfl (by decide) rfl rfl (Nat.le_of_ble_eq_true rfl) ⟨Nat.le_refl _, Or.inl rfl⟩ dX12_empties_61 ⟨rfl, hV39, q47⟩ (fun r44 V45 hp46 => ?_)
          obtain ⟨rfl, hV48, hF49, hxp50, hE51⟩ := hp46
          replace hb13 := hb13.trans (pf_call_eq hE51)
          change pm_J X 64 [(0, (3, 90)), (1, (0, a1))] [] 118 V45
          have hF52 := pm_fs.tr hF40 hF49 (by decide) (by decide)
          have e53 : V45 90 38 = 109 := by rw [hF49.2 38 (by decide)]; exact e42
          have e54 : V45 90 39 = (y21 - 1) := by rw [hF49.2 39 (by decide)]; exact e43
          refine pm_goto (tgt := 0) hC dX12_empties_64 (by decide) ?_
          obtain ⟨y55, e56⟩ : ∃ y, V45 90 33 = y := ⟨_, rfl⟩
          have b57 := hV48.get 90 33 (lo := 0) (hi := 600) (by decide) (by decide) rfl
          rw [e56] at b57
          replace hb13 := hb13.trans (pf_let_eq e56)
          refine pm_lvsub [0, 1] (lv' := [(0, (3, 90)), (1, (0, a1))]) rfl ?_
          exact ih17 _ (by rw [e54]; omega) V45 hV48 hF52 (by rw [(show V45 90 33 = y55 from e56), (show V45 90 39 = (y21 - 1) from e54)]; omega) (hT.trans (pf_val_inl hb13)) rfl
  refine pm_lvsub [0, 1] (lv' := [(0, (3, 90)), (1, (0, a1))]) rfl ?_
  exact L14 _ V0 hV0 (pm_fs.rf (cs := [107]) (fs := [33, 39]) (V := V0)) (by rw [(show V0 90 33 = y1 from e2), (show V0 90 39 = y4 from e5)]; omega) hT rfl
set_option maxHeartbeats 4000000 in
set_option maxRecDepth 100000 in
theorem fP_X12_nameHere  : pm_K 6 yX12_nameHere cX12_nameHere 1 (some .int) (fun av V => av = [(3, 90)] ∧ pm_oq pm_qP V) (fun _ V r V' => ∃ y, r = some (0, y) ∧ ((-1) ≤ y ∧ y ≤ 6 ∧ (0 ≤ y → V 90 3 = 1)) ∧ V = V' ∧ F_X12_nameHere  V = (y, V)) := by
  refine pm_MT.of (by decide) ⟨Nat.le_refl _, by decide⟩ (fun av V h => by rw [h.1]; exact (by decide : pm_words [(3, 0)] ≤ 1)) ?_
  rintro X av V0 hC - hR ⟨rfl, hV0⟩
  change pm_J X 0 [(0, (3, 90))] [] 118 V0
  have hT := F_X12_nameHere_eq  V0
  refine pm_aload_n hC 0 (by decide) dX12_nameHere_0 rfl ?_
  refine pm_ldcS (tx := "third") (q := 6) hC (by decide) dX12_nameHere_1 ?_
  change pm_J X 3 [(0, (3, 90))] [(4, 6), (3, 90)] 118 V0
  obtain ⟨y1, e2⟩ : ∃ y, V0 90 3 = y := ⟨_, rfl⟩
  have b3 := hV0.get 90 3 (lo := 0) (hi := 4) (by decide) (by decide) rfl
  rw [e2] at b3
  replace hT := hT.trans (pf_let_eq e2)
  refine pm_callV (ci := 12) (as := [(4, 6)]) (st := []) hC 90 (fP_X12_isWord 6 ⟨by decide, by decide⟩) lm_X12_156 li_X12_isWord (by decide) (by decide) rfl rfl rfl (by decide) rfl rfl (Nat.le_of_ble_eq_true rfl) ⟨Nat.le_refl _, Or.inl rfl⟩ dX12_nameHere_3 ⟨rfl, hV0⟩ (fun r4 V5 hp6 => ?_)
  obtain ⟨y7, rfl, b8, rfl, hE9⟩ := hp6
  replace hT := hT.trans (pf_call_eq hE9)
  change pm_J X 6 [(0, (3, 90))] [(0, y7)] 118 V0
  refine pm_if_eq (tgt := 13) hC ⟨by omega, by omega⟩ dX12_nameHere_6 (by decide) (fun c10 => ?_) (fun c10 => ?_)
  · skip
    replace hT := hT.trans (if_pos c10)
    refine pm_aload_n hC 0 (by decide) dX12_nameHere_13 rfl ?_
    refine pm_ldcS (tx := "noticed") (q := 7) hC (by decide) dX12_nameHere_14 ?_
    change pm_J X 16 [(0, (3, 90))] [(4, 7), (3, 90)] 118 V0
    refine pm_callV (ci := 12) (as := [(4, 7)]) (st := []) hC 90 (fP_X12_isWord 7 ⟨by decide, by decide⟩) lm_X12_156 li_X12_isWord (by decide) (by decide) rfl rfl rfl (by decide) rfl rfl (Nat.le_of_ble_eq_true rfl) ⟨Nat.le_refl _, Or.inl rfl⟩ dX12_nameHere_16 ⟨rfl, hV0⟩ (fun r11 V12 hp13 => ?_)
    obtain ⟨y14, rfl, b15, rfl, hE16⟩ := hp13
    replace hT := hT.trans (pf_call_eq hE16)
    change pm_J X 19 [(0, (3, 90))] [(0, y14)] 118 V0
    refine pm_if_eq (tgt := 26) hC ⟨by omega, by omega⟩ dX12_nameHere_19 (by decide) (fun c17 => ?_) (fun c17 => ?_)
    · skip
      replace hT := hT.trans (if_pos c17)
      refine pm_aload_n hC 0 (by decide) dX12_nameHere_26 rfl ?_
      refine pm_ldcS (tx := "voice") (q := 1) hC (by decide) dX12_nameHere_27 ?_
      change pm_J X 29 [(0, (3, 90))] [(4, 1), (3, 90)] 118 V0
      refine pm_callV (ci := 12) (as := [(4, 1)]) (st := []) hC 90 (fP_X12_isWord 1 ⟨by decide, by decide⟩) lm_X12_156 li_X12_isWord (by decide) (by decide) rfl rfl rfl (by decide) rfl rfl (Nat.le_of_ble_eq_true rfl) ⟨Nat.le_refl _, Or.inl rfl⟩ dX12_nameHere_29 ⟨rfl, hV0⟩ (fun r18 V19 hp20 => ?_)
      obtain ⟨y21, rfl, b22, rfl, hE23⟩ := hp20
      replace hT := hT.trans (pf_call_eq hE23)
      change pm_J X 32 [(0, (3, 90))] [(0, y21)] 118 V0
      refine pm_if_eq (tgt := 39) hC ⟨by omega, by omega⟩ dX12_nameHere_32 (by decide) (fun c24 => ?_) (fun c24 => ?_)
      · skip
        replace hT := hT.trans (if_pos c24)
        refine pm_aload_n hC 0 (by decide) dX12_nameHere_39 rfl ?_
        refine pm_ldcS (tx := "face") (q := 2) hC (by decide) dX12_nameHere_40 ?_
        change pm_J X 42 [(0, (3, 90))] [(4, 2), (3, 90)] 118 V0
        refine pm_callV (ci := 12) (as := [(4, 2)]) (st := []) hC 90 (fP_X12_isWord 2 ⟨by decide, by decide⟩) lm_X12_156 li_X12_isWord (by decide) (by decide) rfl rfl rfl (by decide) rfl rfl (Nat.le_of_ble_eq_true rfl) ⟨Nat.le_refl _, Or.inl rfl⟩ dX12_nameHere_42 ⟨rfl, hV0⟩ (fun r25 V26 hp27 => ?_)
        obtain ⟨y28, rfl, b29, rfl, hE30⟩ := hp27
        replace hT := hT.trans (pf_call_eq hE30)
        change pm_J X 45 [(0, (3, 90))] [(0, y28)] 118 V0
        refine pm_if_eq (tgt := 52) hC ⟨by omega, by omega⟩ dX12_nameHere_45 (by decide) (fun c31 => ?_) (fun c31 => ?_)
        · skip
          replace hT := hT.trans (if_pos c31)
          refine pm_aload_n hC 0 (by decide) dX12_nameHere_52 rfl ?_
          refine pm_ldcwS (tx := "noise") (q := 8) hC (by decide) dX12_nameHere_53 ?_
          change pm_J X 56 [(0, (3, 90))] [(4, 8), (3, 90)] 118 V0
          refine pm_callV (ci := 12) (as := [(4, 8)]) (st := []) hC 90 (fP_X12_isWord 8 ⟨by decide, by decide⟩) lm_X12_156 li_X12_isWord (by decide) (by decide) rfl rfl rfl (by decide) rfl rfl (Nat.le_of_ble_eq_true rfl) ⟨Nat.le_refl _, Or.inl rfl⟩ dX12_nameHere_56 ⟨rfl, hV0⟩ (fun r32 V33 hp34 => ?_)
          obtain ⟨y35, rfl, b36, rfl, hE37⟩ := hp34
          replace hT := hT.trans (pf_call_eq hE37)
          change pm_J X 59 [(0, (3, 90))] [(0, y35)] 118 V0
          refine pm_if_eq (tgt := 66) hC ⟨by omega, by omega⟩ dX12_nameHere_59 (by decide) (fun c38 => ?_) (fun c38 => ?_)
          · skip
            replace hT := hT.trans (if_pos c38)
            refine pm_aload_n hC 0 (by decide) dX12_nameHere_66 rfl ?_
            refine pm_ldcwS (tx := "dark") (q := 9) hC (by decide) dX12_nameHere_67 ?_
            change pm_J X 70 [(0, (3, 90))] [(4, 9), (3, 90)] 118 V0
            refine pm_callV (ci := 12) (as := [(4, 9)]) (st := []) hC 90 (fP_X12_isWord 9 ⟨by decide, by decide⟩) lm_X12_156 li_X12_isWord (by decide) (by decide) rfl rfl rfl (by decide) rfl rfl (Nat.le_of_ble_eq_true rfl) ⟨Nat.le_refl _, Or.inl rfl⟩ dX12_nameHere_70 ⟨rfl, hV0⟩ (fun r39 V40 hp41 => ?_)
            obtain ⟨y42, rfl, b43, rfl, hE44⟩ := hp41
            replace hT := hT.trans (pf_call_eq hE44)
            change pm_J X 73 [(0, (3, 90))] [(0, y42)] 118 V0
            refine pm_if_eq (tgt := 80) hC ⟨by omega, by omega⟩ dX12_nameHere_73 (by decide) (fun c45 => ?_) (fun c45 => ?_)
            · skip
              replace hT := hT.trans (if_pos c45)
              refine pm_aload_n hC 0 (by decide) dX12_nameHere_80 rfl ?_
              refine pm_ldcwS (tx := "late") (q := 10) hC (by decide) dX12_nameHere_81 ?_
              change pm_J X 84 [(0, (3, 90))] [(4, 10), (3, 90)] 118 V0
              refine pm_callV (ci := 12) (as := [(4, 10)]) (st := []) hC 90 (fP_X12_isWord 10 ⟨by decide, by decide⟩) lm_X12_156 li_X12_isWord (by decide) (by decide) rfl rfl rfl (by decide) rfl rfl (Nat.le_of_ble_eq_true rfl) ⟨Nat.le_refl _, Or.inl rfl⟩ dX12_nameHere_84 ⟨rfl, hV0⟩ (fun r46 V47 hp48 => ?_)
              obtain ⟨y49, rfl, b50, rfl, hE51⟩ := hp48
              replace hT := hT.trans (pf_call_eq hE51)
              change pm_J X 87 [(0, (3, 90))] [(0, y49)] 118 V0
              refine pm_if_eq (tgt := 95) hC ⟨by omega, by omega⟩ dX12_nameHere_87 (by decide) (fun c52 => ?_) (fun c52 => ?_)
              · skip
                replace hT := hT.trans (if_pos c52)
                refine pm_iconst (v := (-1)) hC dX12_nameHere_95 ?_
                exact pm_iret hC hR pm_nar0 ⟨(-1), rfl, ⟨by omega, by omega, by omega⟩, rfl, hT⟩ dX12_nameHere_96
              · skip
                replace hT := hT.trans (if_neg c52)
                refine pm_bipush (v := 6) hC dX12_nameHere_90 (by decide) ?_
                refine pm_goto (tgt := 96) hC dX12_nameHere_92 (by decide) ?_
                exact pm_iret hC hR pm_nar0 ⟨6, rfl, ⟨by omega, by omega, by omega⟩, rfl, hT⟩ dX12_nameHere_96
            · skip
              replace hT := hT.trans (if_neg c45)
              refine pm_iconst (v := 5) hC dX12_nameHere_76 ?_
              refine pm_goto (tgt := 96) hC dX12_nameHere_77 (by decide) ?_
              exact pm_iret hC hR pm_nar0 ⟨5, rfl, ⟨by omega, by omega, by omega⟩, rfl, hT⟩ dX12_nameHere_96
          · skip
            replace hT := hT.trans (if_neg c38)
            refine pm_iconst (v := 4) hC dX12_nameHere_62 ?_
            refine pm_goto (tgt := 96) hC dX12_nameHere_63 (by decide) ?_
            exact pm_iret hC hR pm_nar0 ⟨4, rfl, ⟨by omega, by omega, by omega⟩, rfl, hT⟩ dX12_nameHere_96
        · skip
          replace hT := hT.trans (if_neg c31)
          refine pm_iconst (v := 3) hC dX12_nameHere_48 ?_
          refine pm_goto (tgt := 96) hC dX12_nameHere_49 (by decide) ?_
          exact pm_iret hC hR pm_nar0 ⟨3, rfl, ⟨by omega, by omega, by omega⟩, rfl, hT⟩ dX12_nameHere_96
      · skip
        replace hT := hT.trans (if_neg c24)
        refine pm_iconst (v := 2) hC dX12_nameHere_35 ?_
        refine pm_goto (tgt := 96) hC dX12_nameHere_36 (by decide) ?_
        exact pm_iret hC hR pm_nar0 ⟨2, rfl, ⟨by omega, by omega, by omega⟩, rfl, hT⟩ dX12_nameHere_96
    · skip
      replace hT := hT.trans (if_neg c17)
      refine pm_iconst (v := 1) hC dX12_nameHere_22 ?_
      refine pm_goto (tgt := 96) hC dX12_nameHere_23 (by decide) ?_
      exact pm_iret hC hR pm_nar0 ⟨1, rfl, ⟨by omega, by omega, by omega⟩, rfl, hT⟩ dX12_nameHere_96
  · skip
    replace hT := hT.trans (if_neg c10)
    refine pm_iconst (v := 0) hC dX12_nameHere_9 ?_
    refine pm_goto (tgt := 96) hC dX12_nameHere_10 (by decide) ?_
    exact pm_iret hC hR pm_nar0 ⟨0, rfl, ⟨by omega, by omega, by omega⟩, rfl, hT⟩ dX12_nameHere_96
