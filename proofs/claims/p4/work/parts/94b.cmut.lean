theorem dX7_begin_0 : decode cX7_begin 0 = .ok (.aload_n 0, 1) := by decide +kernel
theorem dX7_begin_1 : decode cX7_begin 1 = .ok (.iconst 0, 1) := by decide +kernel
theorem dX7_begin_2 : decode cX7_begin 2 = .ok (.putfield 15, 3) := by decide +kernel
theorem dX7_begin_5 : decode cX7_begin 5 = .ok (.aload_n 0, 1) := by decide +kernel
theorem dX7_begin_6 : decode cX7_begin 6 = .ok (.iconst 0, 1) := by decide +kernel
theorem dX7_begin_7 : decode cX7_begin 7 = .ok (.putfield 32, 3) := by decide +kernel
theorem dX7_begin_10 : decode cX7_begin 10 = .ok (.aload_n 0, 1) := by decide +kernel
theorem dX7_begin_11 : decode cX7_begin 11 = .ok (.iconst 0, 1) := by decide +kernel
theorem dX7_begin_12 : decode cX7_begin 12 = .ok (.iconst 0, 1) := by decide +kernel
theorem dX7_begin_13 : decode cX7_begin 13 = .ok (.iload_n 1, 1) := by decide +kernel
theorem dX7_begin_14 : decode cX7_begin 14 = .ok (.iconst 0, 1) := by decide +kernel
theorem dX7_begin_15 : decode cX7_begin 15 = .ok (.invokevirtual 51, 3) := by decide +kernel
theorem dX7_begin_18 : decode cX7_begin 18 = .ok (.pop, 1) := by decide +kernel
theorem dX7_begin_19 : decode cX7_begin 19 = .ok (.return_, 1) := by decide +kernel
noncomputable def F_X8_add (a1 : Int) (V0 : pm_M) : Int × pm_M := pf_val ((0 : Int), V0) (fun (q : Int × pm_M) => match q with | (x1, V3) => ((if x1 < 0 then ((.inr (0, V3))) else (pf_let (V3 1 1) fun y14 => (if 500 ≤ y14 then (pf_let (x1 + (-8)) fun x19 => (.inl (x19, V3))) else (pf_let ((pm_iushrV a1 x1)) fun y21 => pf_let ((pm_iandV y21 255)) fun y23 => pf_let (x1 + (-8)) fun x25 => (.inl (x25, (pm_up (pm_up V3 2 (y14 : Int).toNat y23) 1 1 (y14 + 1)))))))))) (24, V0)
theorem F_X8_add_eq (a1 : Int) (V0 : pm_M) : F_X8_add a1 V0 = pf_val ((0 : Int), V0) (fun (q : Int × pm_M) => match q with | (x1, V3) => ((if x1 < 0 then ((.inr (0, V3))) else (pf_let (V3 1 1) fun y14 => (if 500 ≤ y14 then (pf_let (x1 + (-8)) fun x19 => (.inl (x19, V3))) else (pf_let ((pm_iushrV a1 x1)) fun y21 => pf_let ((pm_iandV y21 255)) fun y23 => pf_let (x1 + (-8)) fun x25 => (.inl (x25, (pm_up (pm_up V3 2 (y14 : Int).toNat y23) 1 1 (y14 + 1)))))))))) (24, V0) := rfl
noncomputable def F_X11_feed (a1 a2 a3 a4 a5 : Int) (V0 : pm_M) : Int × pm_M := pf_let (V0 1 1) fun y2 => (if (y2 + 20) ≤ 500 then (pf_call (F_X8_add a1 V0) fun _ V7 => pf_call (F_X8_add a2 V7) fun _ V15 => pf_call (F_X8_add a3 V15) fun _ V23 => pf_call (F_X8_add a4 V23) fun _ V31 => pf_call (F_X8_add a5 V31) fun _ V39 => pf_let (V39 1 1) fun y46 => (y46, V39)) else (((-1), V0)))
theorem F_X11_feed_eq (a1 a2 a3 a4 a5 : Int) (V0 : pm_M) : F_X11_feed a1 a2 a3 a4 a5 V0 = pf_let (V0 1 1) fun y2 => (if (y2 + 20) ≤ 500 then (pf_call (F_X8_add a1 V0) fun _ V7 => pf_call (F_X8_add a2 V7) fun _ V15 => pf_call (F_X8_add a3 V15) fun _ V23 => pf_call (F_X8_add a4 V23) fun _ V31 => pf_call (F_X8_add a5 V31) fun _ V39 => pf_let (V39 1 1) fun y46 => (y46, V39)) else (((-1), V0))) := rfl
noncomputable def F_X11_end (a1 : Int) (V0 : pm_M) : Int × pm_M := (if a1 < 0 then ((0, V0)) else (pf_let (V0 1 1) fun y3 => (if a1 ≤ y3 then ((1, (pm_up V0 1 1 a1))) else ((0, V0)))))
theorem F_X11_end_eq (a1 : Int) (V0 : pm_M) : F_X11_end a1 V0 = (if a1 < 0 then ((0, V0)) else (pf_let (V0 1 1) fun y3 => (if a1 ≤ y3 then ((1, (pm_up V0 1 1 a1))) else ((0, V0))))) := rfl
noncomputable def F_X11_fault (a1 : Int) (V0 : pm_M) : Int × pm_M := (if ¬ (a1 = 0) then ((if ¬ (a1 = 1) then (((-2147483648), V0)) else ((if V0 0 11 = 57 then (pf_call (F_X3_read 57 V0) fun y8 V6 => (y8, V6)) else (pf_call (F_X3_read 63 V0) fun y19 V17 => (y19, V17)))))) else ((if V0 0 9 = 45 then (pf_call (F_X6_read 45 V0) fun y32 V30 => (y32, V30)) else (pf_call (F_X6_read 51 V0) fun y43 V41 => (y43, V41)))))
theorem F_X11_fault_eq (a1 : Int) (V0 : pm_M) : F_X11_fault a1 V0 = (if ¬ (a1 = 0) then ((if ¬ (a1 = 1) then (((-2147483648), V0)) else ((if V0 0 11 = 57 then (pf_call (F_X3_read 57 V0) fun y8 V6 => (y8, V6)) else (pf_call (F_X3_read 63 V0) fun y19 V17 => (y19, V17)))))) else ((if V0 0 9 = 45 then (pf_call (F_X6_read 45 V0) fun y32 V30 => (y32, V30)) else (pf_call (F_X6_read 51 V0) fun y43 V41 => (y43, V41))))) := rfl
noncomputable def F_X7_changePerson (a1 a2 a3 a4 : Int) (V0 : pm_M) : Int × pm_M := (0, (pm_up (pm_up (pm_up V0 5 (a1 : Int).toNat a2) 6 (a1 : Int).toNat a3) 7 (a1 : Int).toNat a4))
theorem F_X7_changePerson_eq (a1 a2 a3 a4 : Int) (V0 : pm_M) : F_X7_changePerson a1 a2 a3 a4 V0 = (0, (pm_up (pm_up (pm_up V0 5 (a1 : Int).toNat a2) 6 (a1 : Int).toNat a3) 7 (a1 : Int).toNat a4)) := rfl
noncomputable def F_X7_addPerson (a1 a2 a3 a4 : Int) (V0 : pm_M) : Int × pm_M := pf_let (V0 4 1) fun y1 => (if y1 < 10 then (pf_call (F_X7_changePerson y1 a1 a2 a3 (pm_up V0 8 (y1 : Int).toNat a4)) fun _ V7 => (((y1 + 1) - 1), (pm_up V7 4 1 (y1 + 1)))) else (((-1), V0)))
theorem F_X7_addPerson_eq (a1 a2 a3 a4 : Int) (V0 : pm_M) : F_X7_addPerson a1 a2 a3 a4 V0 = pf_let (V0 4 1) fun y1 => (if y1 < 10 then (pf_call (F_X7_changePerson y1 a1 a2 a3 (pm_up V0 8 (y1 : Int).toNat a4)) fun _ V7 => (((y1 + 1) - 1), (pm_up V7 4 1 (y1 + 1)))) else (((-1), V0))) := rfl
noncomputable def F_X7_begin (a1 : Int) (V0 : pm_M) : Int × pm_M := pf_call (F_X7_addPerson 0 0 a1 0 (pm_up (pm_up V0 4 1 0) 4 6 0)) fun y4 V2 => (0, V2)
theorem F_X7_begin_eq (a1 : Int) (V0 : pm_M) : F_X7_begin a1 V0 = pf_call (F_X7_addPerson 0 0 a1 0 (pm_up (pm_up V0 4 1 0) 4 6 0)) fun y4 V2 => (0, V2) := rfl
noncomputable def F_X11_scene (V0 : pm_M) : Int × pm_M := (if V0 0 9 = 45 then (pf_call (F_X6_read 45 V0) fun y6 V4 => pf_let (V4 45 0) fun y14 => (if y6 = (-1) then ((if V4 0 8 = 45 then (pf_let (V4 45 8) fun y21 => pf_call (F_X7_begin y21 (pm_up (pm_up (pm_up V4 0 8 45) 0 9 45) 1 1 0)) fun _ V25 => pf_val ((0 : Int), V0) (fun (q : Int × pm_M) => match q with | (x39, V41) => ((if 3 ≤ x39 then ((.inr (y14, V41))) else ((if x39 = 0 then (pf_let (x39 + 1) fun x62 => (.inl (x62, (pm_up V41 15 0 0)))) else ((if x39 = 1 then (pf_let (x39 + 1) fun x65 => (.inl (x65, (pm_up V41 25 0 0)))) else (pf_let (x39 + 1) fun x68 => (.inl (x68, (pm_up V41 35 0 0))))))))))) (0, V25)) else (pf_let (V4 45 8) fun y72 => pf_call (F_X7_begin y72 (pm_up (pm_up (pm_up V4 0 8 45) 0 9 51) 1 1 0)) fun _ V76 => pf_val ((0 : Int), V0) (fun (q : Int × pm_M) => match q with | (x90, V92) => ((if 3 ≤ x90 then ((.inr (y14, V92))) else ((if x90 = 0 then (pf_let (x90 + 1) fun x113 => (.inl (x113, (pm_up V92 15 0 0)))) else ((if x90 = 1 then (pf_let (x90 + 1) fun x116 => (.inl (x116, (pm_up V92 25 0 0)))) else (pf_let (x90 + 1) fun x119 => (.inl (x119, (pm_up V92 35 0 0))))))))))) (0, V76)))) else (((-1), V4)))) else (pf_call (F_X6_read 51 V0) fun y124 V122 => pf_let (V122 51 0) fun y132 => (if y124 = (-1) then ((if V122 0 8 = 45 then (pf_let (V122 51 8) fun y139 => pf_call (F_X7_begin y139 (pm_up (pm_up (pm_up V122 0 8 51) 0 9 45) 1 1 0)) fun _ V143 => pf_val ((0 : Int), V0) (fun (q : Int × pm_M) => match q with | (x157, V159) => ((if 3 ≤ x157 then ((.inr (y132, V159))) else ((if x157 = 0 then (pf_let (x157 + 1) fun x180 => (.inl (x180, (pm_up V159 15 0 0)))) else ((if x157 = 1 then (pf_let (x157 + 1) fun x183 => (.inl (x183, (pm_up V159 25 0 0)))) else (pf_let (x157 + 1) fun x186 => (.inl (x186, (pm_up V159 35 0 0))))))))))) (0, V143)) else (pf_let (V122 51 8) fun y190 => pf_call (F_X7_begin y190 (pm_up (pm_up (pm_up V122 0 8 51) 0 9 51) 1 1 0)) fun _ V194 => pf_val ((0 : Int), V0) (fun (q : Int × pm_M) => match q with | (x208, V210) => ((if 3 ≤ x208 then ((.inr (y132, V210))) else ((if x208 = 0 then (pf_let (x208 + 1) fun x231 => (.inl (x231, (pm_up V210 15 0 0)))) else ((if x208 = 1 then (pf_let (x208 + 1) fun x234 => (.inl (x234, (pm_up V210 25 0 0)))) else (pf_let (x208 + 1) fun x237 => (.inl (x237, (pm_up V210 35 0 0))))))))))) (0, V194)))) else (((-1), V122)))))
theorem F_X11_scene_eq (V0 : pm_M) : F_X11_scene V0 = (if V0 0 9 = 45 then (pf_call (F_X6_read 45 V0) fun y6 V4 => pf_let (V4 45 0) fun y14 => (if y6 = (-1) then ((if V4 0 8 = 45 then (pf_let (V4 45 8) fun y21 => pf_call (F_X7_begin y21 (pm_up (pm_up (pm_up V4 0 8 45) 0 9 45) 1 1 0)) fun _ V25 => pf_val ((0 : Int), V0) (fun (q : Int × pm_M) => match q with | (x39, V41) => ((if 3 ≤ x39 then ((.inr (y14, V41))) else ((if x39 = 0 then (pf_let (x39 + 1) fun x62 => (.inl (x62, (pm_up V41 15 0 0)))) else ((if x39 = 1 then (pf_let (x39 + 1) fun x65 => (.inl (x65, (pm_up V41 25 0 0)))) else (pf_let (x39 + 1) fun x68 => (.inl (x68, (pm_up V41 35 0 0))))))))))) (0, V25)) else (pf_let (V4 45 8) fun y72 => pf_call (F_X7_begin y72 (pm_up (pm_up (pm_up V4 0 8 45) 0 9 51) 1 1 0)) fun _ V76 => pf_val ((0 : Int), V0) (fun (q : Int × pm_M) => match q with | (x90, V92) => ((if 3 ≤ x90 then ((.inr (y14, V92))) else ((if x90 = 0 then (pf_let (x90 + 1) fun x113 => (.inl (x113, (pm_up V92 15 0 0)))) else ((if x90 = 1 then (pf_let (x90 + 1) fun x116 => (.inl (x116, (pm_up V92 25 0 0)))) else (pf_let (x90 + 1) fun x119 => (.inl (x119, (pm_up V92 35 0 0))))))))))) (0, V76)))) else (((-1), V4)))) else (pf_call (F_X6_read 51 V0) fun y124 V122 => pf_let (V122 51 0) fun y132 => (if y124 = (-1) then ((if V122 0 8 = 45 then (pf_let (V122 51 8) fun y139 => pf_call (F_X7_begin y139 (pm_up (pm_up (pm_up V122 0 8 51) 0 9 45) 1 1 0)) fun _ V143 => pf_val ((0 : Int), V0) (fun (q : Int × pm_M) => match q with | (x157, V159) => ((if 3 ≤ x157 then ((.inr (y132, V159))) else ((if x157 = 0 then (pf_let (x157 + 1) fun x180 => (.inl (x180, (pm_up V159 15 0 0)))) else ((if x157 = 1 then (pf_let (x157 + 1) fun x183 => (.inl (x183, (pm_up V159 25 0 0)))) else (pf_let (x157 + 1) fun x186 => (.inl (x186, (pm_up V159 35 0 0))))))))))) (0, V143)) else (pf_let (V122 51 8) fun y190 => pf_call (F_X7_begin y190 (pm_up (pm_up (pm_up V122 0 8 51) 0 9 51) 1 1 0)) fun _ V194 => pf_val ((0 : Int), V0) (fun (q : Int × pm_M) => match q with | (x208, V210) => ((if 3 ≤ x208 then ((.inr (y132, V210))) else ((if x208 = 0 then (pf_let (x208 + 1) fun x231 => (.inl (x231, (pm_up V210 15 0 0)))) else ((if x208 = 1 then (pf_let (x208 + 1) fun x234 => (.inl (x234, (pm_up V210 25 0 0)))) else (pf_let (x208 + 1) fun x237 => (.inl (x237, (pm_up V210 35 0 0))))))))))) (0, V194)))) else (((-1), V122))))) := rfl
noncomputable def F_X11_rules (V0 : pm_M) : Int × pm_M := (if V0 0 11 = 57 then (pf_call (F_X3_read 57 V0) fun y6 V4 => pf_let (V4 57 0) fun y14 => (if y6 = (-1) then ((if V4 0 10 = 57 then ((y14, (pm_up (pm_up (pm_up V4 0 10 57) 0 11 57) 1 1 0))) else ((y14, (pm_up (pm_up (pm_up V4 0 10 57) 0 11 63) 1 1 0))))) else (((-1), V4)))) else (pf_call (F_X3_read 63 V0) fun y24 V22 => pf_let (V22 63 0) fun y32 => (if y24 = (-1) then ((if V22 0 10 = 57 then ((y32, (pm_up (pm_up (pm_up V22 0 10 63) 0 11 57) 1 1 0))) else ((y32, (pm_up (pm_up (pm_up V22 0 10 63) 0 11 63) 1 1 0))))) else (((-1), V22)))))
theorem F_X11_rules_eq (V0 : pm_M) : F_X11_rules V0 = (if V0 0 11 = 57 then (pf_call (F_X3_read 57 V0) fun y6 V4 => pf_let (V4 57 0) fun y14 => (if y6 = (-1) then ((if V4 0 10 = 57 then ((y14, (pm_up (pm_up (pm_up V4 0 10 57) 0 11 57) 1 1 0))) else ((y14, (pm_up (pm_up (pm_up V4 0 10 57) 0 11 63) 1 1 0))))) else (((-1), V4)))) else (pf_call (F_X3_read 63 V0) fun y24 V22 => pf_let (V22 63 0) fun y32 => (if y24 = (-1) then ((if V22 0 10 = 57 then ((y32, (pm_up (pm_up (pm_up V22 0 10 63) 0 11 57) 1 1 0))) else ((y32, (pm_up (pm_up (pm_up V22 0 10 63) 0 11 63) 1 1 0))))) else (((-1), V22))))) := rfl
set_option maxHeartbeats 4000000 in
set_option maxRecDepth 100000 in
theorem fC_X8_add (a1 : Int) (h0 : (-2147483648) ≤ a1 ∧ a1 ≤ 2147483647) : pm_K 1 yX8_add cX8_add 3 none (fun av V => av = [(3, 1), (0, a1)] ∧ pm_ok 0 90 V) (fun _ V r V' => r = none ∧ pm_ok 0 90 V' ∧ pm_fr [1, 2] V V' ∧ F_X8_add a1 V = (0, V')) := by
  refine pm_MT.of (by decide) ⟨Nat.le_refl _, by decide⟩ (fun av V h => by rw [h.1]; exact (by decide : pm_words [(3, 0), (0, 0)] ≤ 3)) ?_
  rintro X av V0 hC - hR ⟨rfl, hV0⟩
  change pm_J X 0 [(0, (3, 1)), (1, (0, a1))] [] 118 V0
  have hT := F_X8_add_eq a1 V0
  refine pm_bipush (v := 24) hC dX8_add_0 (by decide) ?_
  refine pm_istore_n (lv' := [(2, (0, 24)), (0, (3, 1)), (1, (0, a1))]) hC dX8_add_2 (by decide) rfl ?_
  obtain ⟨B6, hB7, hT⟩ := pf_loop hT
  have L9 : ∀ (N11 : Nat) (x1 : Int) (V3 : pm_M), ((-99) ≤ x1 ∧ x1 ≤ 24) → pm_ok 0 90 V3 → pm_fr [1, 2] V0 V3 → F_X8_add a1 V0 = pf_val ((0 : Int), V0) B6 (x1, V3) → (Int.toNat (x1 - (-99))) = N11 → pm_J X 3 [(0, (3, 1)), (1, (0, a1)), (2, (0, x1))] [] 118 V3 := by
    intro N11
    induction N11 using Nat.strongRecOn with
    | _ N11 ih12 =>
    intro x1 V3 b2 hV4 hF5 hT hm10
    have hb8 := congrFun hB7 (x1, V3)
    refine pm_iload_n hC 2 dX8_add_3 rfl ?_
    refine pm_if_lt (tgt := 51) hC ⟨by omega, by omega⟩ dX8_add_4 (by decide) (fun c13 => ?_) (fun c13 => ?_)
    · skip
      replace hb8 := hb8.trans (if_pos c13)
      have hT := hT.trans (pf_val_inr hb8)
      exact pm_vret hC hR ⟨rfl, hV4, hF5, hT⟩ dX8_add_51
    · skip
      replace hb8 := hb8.trans (if_neg (Int.not_lt.mpr c13))
      refine pm_aload_n hC 0 (by decide) dX8_add_7 rfl ?_
      obtain ⟨y14, e15⟩ : ∃ y, V3 1 1 = y := ⟨_, rfl⟩
      have b16 := hV4.get 1 1 (lo := 0) (hi := 500) (by decide) (by decide) rfl
      rw [e15] at b16
      replace hb8 := hb8.trans (pf_let_eq e15)
      refine pm_getf (v := y14) hC 1 fl_X8_15 rfl rfl (by decide) rfl e15 dX8_add_8 ?_
      refine pm_aload_n hC 0 (by decide) dX8_add_11 rfl ?_
      have e17 : V3 1 0 = 2 := hV4.one 1 0 (by decide) (by decide) rfl
      refine pm_getf (v := 2) hC 1 fl_X8_9 rfl rfl (by decide) rfl e17 dX8_add_12 ?_
      refine pm_alen hC 2 rfl (by decide) rfl (by decide) dX8_add_15 ?_
      change pm_J X 16 [(0, (3, 1)), (1, (0, a1)), (2, (0, x1))] [(0, 500), (0, y14)] 118 V3
      refine pm_icmp_ge (tgt := 45) hC ⟨by omega, by omega⟩ ⟨by decide, by decide⟩ dX8_add_16 (by decide) (fun c18 => ?_) (fun c18 => ?_)
      · skip
        replace hb8 := hb8.trans (if_pos c18)
        obtain ⟨x19, ei20⟩ : ∃ y : Int, x1 + (-8) = y := ⟨_, rfl⟩
        replace hb8 := hb8.trans (pf_let_eq ei20)
        refine pm_iinc (y := x19) (lv' := [(2, (0, x19)), (0, (3, 1)), (1, (0, a1))]) hC 2 dX8_add_45 (by decide) rfl ei20 rfl ?_
        refine pm_goto (tgt := 3) hC dX8_add_48 (by decide) ?_
        refine pm_lvsub [1, 2, 0] (lv' := [(0, (3, 1)), (1, (0, a1)), (2, (0, x19))]) rfl ?_
        exact ih12 _ (by omega) x19 V3 ⟨by omega, by omega⟩ hV4 hF5 (hT.trans (pf_val_inl hb8)) rfl
      · skip
        replace hb8 := hb8.trans (if_neg (Int.not_le.mpr c18))
        refine pm_aload_n hC 0 (by decide) dX8_add_19 rfl ?_
        refine pm_getf (v := 2) hC 1 fl_X8_9 rfl rfl (by decide) rfl e17 dX8_add_20 ?_
        refine pm_aload_n hC 0 (by decide) dX8_add_23 rfl ?_
        refine pm_getf (v := y14) hC 1 fl_X8_15 rfl rfl (by decide) rfl e15 dX8_add_24 ?_
        refine pm_iload_n hC 1 dX8_add_27 rfl ?_
        refine pm_iload_n hC 2 dX8_add_28 rfl ?_
        refine pm_iushr hC dX8_add_29 ?_
        have b22 := pm_iushrr a1 x1
        obtain ⟨y21, hey21⟩ : ∃ z, (pm_iushrV a1 x1) = z := ⟨_, rfl⟩
        rw [hey21] at b22 ⊢
        replace hb8 := hb8.trans (pf_let_eq hey21)
        refine pm_sipush (v := 255) hC dX8_add_30 (by decide) ?_
        refine pm_iand hC dX8_add_33 ?_
        have b24 := pm_iandb (x := y21) (y := 255) (by decide)
        obtain ⟨y23, hey23⟩ : ∃ z, (pm_iandV y21 255) = z := ⟨_, rfl⟩
        rw [hey23] at b24 ⊢
        replace hb8 := hb8.trans (pf_let_eq hey23)
        refine pm_iastore (len := 500) hC 2 rfl rfl (by decide) ⟨by omega, by omega⟩ (by decide) dX8_add_34 ?_
        refine pm_aload_n hC 0 (by decide) dX8_add_35 rfl ?_
        refine pm_dup hC rfl dX8_add_36 ?_
        refine pm_getf (v := y14) hC 1 fl_X8_15 rfl rfl (by decide) rfl e15 dX8_add_37 ?_
        refine pm_iconst (v := 1) hC dX8_add_40 ?_
        refine pm_iadd hC dX8_add_41 ?_
        refine pm_putf hC 1 fl_X8_15 rfl rfl rfl (by decide) rfl trivial dX8_add_42 ?_
        obtain ⟨x25, ei26⟩ : ∃ y : Int, x1 + (-8) = y := ⟨_, rfl⟩
        replace hb8 := hb8.trans (pf_let_eq ei26)
        refine pm_iinc (y := x25) (lv' := [(2, (0, x25)), (0, (3, 1)), (1, (0, a1))]) hC 2 dX8_add_45 (by decide) rfl ei26 rfl ?_
        refine pm_goto (tgt := 3) hC dX8_add_48 (by decide) ?_
        refine pm_lvsub [1, 2, 0] (lv' := [(0, (3, 1)), (1, (0, a1)), (2, (0, x25))]) rfl ?_
        exact ih12 _ (by omega) x25 (pm_up (pm_up V3 2 (y14 : Int).toNat y23) 1 1 (y14 + 1)) ⟨by omega, by omega⟩ ((hV4.put 2 (y14 : Int).toNat (x := y23) (lo := 0) (hi := 255) rfl ⟨by omega, by omega⟩).put 1 1 (x := (y14 + 1)) (lo := 0) (hi := 500) rfl ⟨by omega, by omega⟩) ((hF5.up 2 (y14 : Int).toNat y23 rfl).up 1 1 (y14 + 1) rfl) (hT.trans (pf_val_inl hb8)) rfl
  refine pm_lvsub [1, 2, 0] (lv' := [(0, (3, 1)), (1, (0, a1)), (2, (0, 24))]) rfl ?_
  exact L9 _ 24 V0 ⟨by decide, by decide⟩ hV0 (pm_fr.rf (ws := [1, 2]) (V := V0)) hT rfl
set_option maxHeartbeats 4000000 in
set_option maxRecDepth 100000 in
theorem fC_X11_feed (a1 a2 a3 a4 a5 : Int) (h0 : (-2147483648) ≤ a1 ∧ a1 ≤ 2147483647) (h1 : (-2147483648) ≤ a2 ∧ a2 ≤ 2147483647) (h2 : (-2147483648) ≤ a3 ∧ a3 ≤ 2147483647) (h3 : (-2147483648) ≤ a4 ∧ a4 ≤ 2147483647) (h4 : (-2147483648) ≤ a5 ∧ a5 ≤ 2147483647) : pm_K 2 yX11_feed cX11_feed 6 (some .int) (fun av V => av = [(3, 0), (0, a1), (0, a2), (0, a3), (0, a4), (0, a5)] ∧ pm_ok 0 90 V) (fun _ V r V' => ∃ y, r = some (0, y) ∧ ((-1) ≤ y ∧ y ≤ 500) ∧ pm_ok 0 90 V' ∧ pm_fr [1, 2] V V' ∧ F_X11_feed a1 a2 a3 a4 a5 V = (y, V')) := by
  refine pm_MT.of (by decide) ⟨Nat.le_refl _, by decide⟩ (fun av V h => by rw [h.1]; exact (by decide : pm_words [(3, 0), (0, 0), (0, 0), (0, 0), (0, 0), (0, 0)] ≤ 6)) ?_
  rintro X av V0 hC - hR ⟨rfl, hV0⟩
  change pm_J X 0 [(0, (3, 0)), (1, (0, a1)), (2, (0, a2)), (3, (0, a3)), (4, (0, a4)), (5, (0, a5))] [] 118 V0
  have hT := F_X11_feed_eq a1 a2 a3 a4 a5 V0
  refine pm_aload_n hC 0 (by decide) dX11_feed_0 rfl ?_
  have e1 : V0 0 0 = 1 := hV0.one 0 0 (by decide) (by decide) rfl
  refine pm_getf (v := 1) hC 0 fl_X11_10 rfl rfl (by decide) rfl e1 dX11_feed_1 ?_
  obtain ⟨y2, e3⟩ : ∃ y, V0 1 1 = y := ⟨_, rfl⟩
  have b4 := hV0.get 1 1 (lo := 0) (hi := 500) (by decide) (by decide) rfl
  rw [e3] at b4
  replace hT := hT.trans (pf_let_eq e3)
  refine pm_getf (v := y2) hC 1 fl_X11_111 rfl rfl (by decide) rfl e3 dX11_feed_4 ?_
  refine pm_bipush (v := 20) hC dX11_feed_7 (by decide) ?_
  refine pm_iadd hC dX11_feed_9 ?_
  refine pm_sipush (v := 500) hC dX11_feed_10 (by decide) ?_
  refine pm_icmp_le (tgt := 18) hC ⟨by omega, by omega⟩ ⟨by decide, by decide⟩ dX11_feed_13 (by decide) (fun c5 => ?_) (fun c5 => ?_)
  · skip
    replace hT := hT.trans (if_pos c5)
    refine pm_aload_n hC 0 (by decide) dX11_feed_18 rfl ?_
    refine pm_getf (v := 1) hC 0 fl_X11_10 rfl rfl (by decide) rfl e1 dX11_feed_19 ?_
    refine pm_iload_n hC 1 dX11_feed_22 rfl ?_
    refine pm_callV (ci := 8) (as := [(0, a1)]) (st := []) hC 1 (fC_X8_add a1 ⟨by omega, by omega⟩) lm_X11_114 li_X8_add (by decide) (by decide) rfl rfl rfl (by decide) rfl rfl (Nat.le_of_ble_eq_true rfl) ⟨Nat.le_refl _, Or.inl rfl⟩ dX11_feed_23 ⟨rfl, hV0⟩ (fun r6 V7 hp8 => ?_)
    obtain ⟨rfl, hV9, hF10, hE11⟩ := hp8
    replace hT := hT.trans (pf_call_eq hE11)
    change pm_J X 26 [(0, (3, 0)), (1, (0, a1)), (2, (0, a2)), (3, (0, a3)), (4, (0, a4)), (5, (0, a5))] [] 118 V7
    have hF12 := pm_fr.tr (pm_fr.rf (ws := [1, 2]) (V := V0)) hF10 (by decide)
    have e13 : V7 0 0 = 1 := by rw [hF10 0 (by decide)]; exact e1
    refine pm_aload_n hC 0 (by decide) dX11_feed_26 rfl ?_
    refine pm_getf (v := 1) hC 0 fl_X11_10 rfl rfl (by decide) rfl e13 dX11_feed_27 ?_
    refine pm_iload_n hC 2 dX11_feed_30 rfl ?_
    refine pm_callV (ci := 8) (as := [(0, a2)]) (st := []) hC 1 (fC_X8_add a2 ⟨by omega, by omega⟩) lm_X11_114 li_X8_add (by decide) (by decide) rfl rfl rfl (by decide) rfl rfl (Nat.le_of_ble_eq_true rfl) ⟨Nat.le_refl _, Or.inl rfl⟩ dX11_feed_31 ⟨rfl, hV9⟩ (fun r14 V15 hp16 => ?_)
    obtain ⟨rfl, hV17, hF18, hE19⟩ := hp16
    replace hT := hT.trans (pf_call_eq hE19)
    change pm_J X 34 [(0, (3, 0)), (1, (0, a1)), (2, (0, a2)), (3, (0, a3)), (4, (0, a4)), (5, (0, a5))] [] 118 V15
    have hF20 := pm_fr.tr hF12 hF18 (by decide)
    have e21 : V15 0 0 = 1 := by rw [hF18 0 (by decide)]; exact e13
    refine pm_aload_n hC 0 (by decide) dX11_feed_34 rfl ?_
    refine pm_getf (v := 1) hC 0 fl_X11_10 rfl rfl (by decide) rfl e21 dX11_feed_35 ?_
    refine pm_iload_n hC 3 dX11_feed_38 rfl ?_
    refine pm_callV (ci := 8) (as := [(0, a3)]) (st := []) hC 1 (fC_X8_add a3 ⟨by omega, by omega⟩) lm_X11_114 li_X8_add (by decide) (by decide) rfl rfl rfl (by decide) rfl rfl (Nat.le_of_ble_eq_true rfl) ⟨Nat.le_refl _, Or.inl rfl⟩ dX11_feed_39 ⟨rfl, hV17⟩ (fun r22 V23 hp24 => ?_)
    obtain ⟨rfl, hV25, hF26, hE27⟩ := hp24
    replace hT := hT.trans (pf_call_eq hE27)
    change pm_J X 42 [(0, (3, 0)), (1, (0, a1)), (2, (0, a2)), (3, (0, a3)), (4, (0, a4)), (5, (0, a5))] [] 118 V23
    have hF28 := pm_fr.tr hF20 hF26 (by decide)
    have e29 : V23 0 0 = 1 := by rw [hF26 0 (by decide)]; exact e21
    refine pm_aload_n hC 0 (by decide) dX11_feed_42 rfl ?_
    refine pm_getf (v := 1) hC 0 fl_X11_10 rfl rfl (by decide) rfl e29 dX11_feed_43 ?_
    refine pm_iload hC 4 dX11_feed_46 rfl ?_
    refine pm_callV (ci := 8) (as := [(0, a4)]) (st := []) hC 1 (fC_X8_add a4 ⟨by omega, by omega⟩) lm_X11_114 li_X8_add (by decide) (by decide) rfl rfl rfl (by decide) rfl rfl (Nat.le_of_ble_eq_true rfl) ⟨Nat.le_refl _, Or.inl rfl⟩ dX11_feed_48 ⟨rfl, hV25⟩ (fun r30 V31 hp32 => ?_)
    obtain ⟨rfl, hV33, hF34, hE35⟩ := hp32
    replace hT := hT.trans (pf_call_eq hE35)
    change pm_J X 51 [(0, (3, 0)), (1, (0, a1)), (2, (0, a2)), (3, (0, a3)), (4, (0, a4)), (5, (0, a5))] [] 118 V31
    have hF36 := pm_fr.tr hF28 hF34 (by decide)
    have e37 : V31 0 0 = 1 := by rw [hF34 0 (by decide)]; exact e29
    refine pm_aload_n hC 0 (by decide) dX11_feed_51 rfl ?_
    refine pm_getf (v := 1) hC 0 fl_X11_10 rfl rfl (by decide) rfl e37 dX11_feed_52 ?_
    refine pm_iload hC 5 dX11_feed_55 rfl ?_
    refine pm_callV (ci := 8) (as := [(0, a5)]) (st := []) hC 1 (fC_X8_add a5 ⟨by omega, by omega⟩) lm_X11_114 li_X8_add (by decide) (by decide) rfl rfl rfl (by decide) rfl rfl (Nat.le_of_ble_eq_true rfl) ⟨Nat.le_refl _, Or.inl rfl⟩ dX11_feed_57 ⟨rfl, hV33⟩ (fun r38 V39 hp40 => ?_)
    obtain ⟨rfl, hV41, hF42, hE43⟩ := hp40
    replace hT := hT.trans (pf_call_eq hE43)
    change pm_J X 60 [(0, (3, 0)), (1, (0, a1)), (2, (0, a2)), (3, (0, a3)), (4, (0, a4)), (5, (0, a5))] [] 118 V39
    have hF44 := pm_fr.tr hF36 hF42 (by decide)
    have e45 : V39 0 0 = 1 := by rw [hF42 0 (by decide)]; exact e37
    refine pm_aload_n hC 0 (by decide) dX11_feed_60 rfl ?_
    refine pm_getf (v := 1) hC 0 fl_X11_10 rfl rfl (by decide) rfl e45 dX11_feed_61 ?_
    obtain ⟨y46, e47⟩ : ∃ y, V39 1 1 = y := ⟨_, rfl⟩
    have b48 := hV41.get 1 1 (lo := 0) (hi := 500) (by decide) (by decide) rfl
    rw [e47] at b48
    replace hT := hT.trans (pf_let_eq e47)
    refine pm_getf (v := y46) hC 1 fl_X11_111 rfl rfl (by decide) rfl e47 dX11_feed_64 ?_
    exact pm_iret hC hR pm_nar0 ⟨y46, rfl, ⟨by omega, by omega⟩, hV41, hF44, hT⟩ dX11_feed_67
  · skip
    replace hT := hT.trans (if_neg (Int.not_le.mpr c5))
    refine pm_iconst (v := (-1)) hC dX11_feed_16 ?_
    exact pm_iret hC hR pm_nar0 ⟨(-1), rfl, ⟨by omega, by omega⟩, hV0, (pm_fr.rf (ws := [1, 2]) (V := V0)), hT⟩ dX11_feed_17
set_option maxHeartbeats 4000000 in
set_option maxRecDepth 100000 in
theorem fC_X11_end (a1 : Int) (h0 : (-2147483648) ≤ a1 ∧ a1 ≤ 2147483647) : pm_K 1 yX11_end cX11_end 2 (some .boolean) (fun av V => av = [(3, 0), (0, a1)] ∧ pm_ok 0 90 V) (fun _ V r V' => ∃ y, r = some (0, y) ∧ (0 ≤ y ∧ y ≤ 1) ∧ pm_ok 0 90 V' ∧ pm_fr [1] V V' ∧ F_X11_end a1 V = (y, V')) := by
  refine pm_MT.of (by decide) ⟨Nat.le_refl _, by decide⟩ (fun av V h => by rw [h.1]; exact (by decide : pm_words [(3, 0), (0, 0)] ≤ 2)) ?_
  rintro X av V0 hC - hR ⟨rfl, hV0⟩
  change pm_J X 0 [(0, (3, 0)), (1, (0, a1))] [] 118 V0
  have hT := F_X11_end_eq a1 V0
  refine pm_iload_n hC 1 dX11_end_0 rfl ?_
  refine pm_if_lt (tgt := 15) hC ⟨by omega, by omega⟩ dX11_end_1 (by decide) (fun c1 => ?_) (fun c1 => ?_)
  · skip
    replace hT := hT.trans (if_pos c1)
    refine pm_iconst (v := 0) hC dX11_end_15 ?_
    exact pm_iret hC hR (pm_narZ (by omega)) ⟨0, rfl, ⟨by omega, by omega⟩, hV0, (pm_fr.rf (ws := [1]) (V := V0)), hT⟩ dX11_end_16
  · skip
    replace hT := hT.trans (if_neg (Int.not_lt.mpr c1))
    refine pm_iload_n hC 1 dX11_end_4 rfl ?_
    refine pm_aload_n hC 0 (by decide) dX11_end_5 rfl ?_
    have e2 : V0 0 0 = 1 := hV0.one 0 0 (by decide) (by decide) rfl
    refine pm_getf (v := 1) hC 0 fl_X11_10 rfl rfl (by decide) rfl e2 dX11_end_6 ?_
    obtain ⟨y3, e4⟩ : ∃ y, V0 1 1 = y := ⟨_, rfl⟩
    have b5 := hV0.get 1 1 (lo := 0) (hi := 500) (by decide) (by decide) rfl
    rw [e4] at b5
    replace hT := hT.trans (pf_let_eq e4)
    refine pm_getf (v := y3) hC 1 fl_X11_111 rfl rfl (by decide) rfl e4 dX11_end_9 ?_
    refine pm_icmp_le (tgt := 17) hC ⟨by omega, by omega⟩ ⟨by omega, by omega⟩ dX11_end_12 (by decide) (fun c6 => ?_) (fun c6 => ?_)
    · skip
      replace hT := hT.trans (if_pos c6)
      refine pm_aload_n hC 0 (by decide) dX11_end_17 rfl ?_
      refine pm_getf (v := 1) hC 0 fl_X11_10 rfl rfl (by decide) rfl e2 dX11_end_18 ?_
      refine pm_iload_n hC 1 dX11_end_21 rfl ?_
      refine pm_putf hC 1 fl_X11_111 rfl rfl rfl (by decide) rfl trivial dX11_end_22 ?_
      refine pm_iconst (v := 1) hC dX11_end_25 ?_
      exact pm_iret hC hR (pm_narZ (by omega)) ⟨1, rfl, ⟨by omega, by omega⟩, (hV0.put 1 1 (x := a1) (lo := 0) (hi := 500) rfl ⟨by omega, by omega⟩), ((pm_fr.rf (ws := [1]) (V := V0)).up 1 1 a1 rfl), hT⟩ dX11_end_26
    · skip
      replace hT := hT.trans (if_neg (Int.not_le.mpr c6))
      refine pm_iconst (v := 0) hC dX11_end_15 ?_
      exact pm_iret hC hR (pm_narZ (by omega)) ⟨0, rfl, ⟨by omega, by omega⟩, hV0, (pm_fr.rf (ws := [1]) (V := V0)), hT⟩ dX11_end_16
set_option maxHeartbeats 4000000 in
set_option maxRecDepth 100000 in
theorem fC_X11_fault (a1 : Int) (h0 : (-2147483648) ≤ a1 ∧ a1 ≤ 2147483647) : pm_K 32 yX11_fault cX11_fault 2 (some .int) (fun av V => av = [(3, 0), (0, a1)] ∧ pm_ok 0 90 V) (fun _ V r V' => ∃ y, r = some (0, y) ∧ ((-2147483648) ≤ y ∧ y ≤ 500) ∧ pm_ok 0 90 V' ∧ pm_fr [3, 45, 46, 47, 48, 49, 50, 51, 52, 53, 54, 55, 56, 57, 58, 59, 60, 61, 63, 64, 65, 66, 67, 69, 70, 71, 72] V V' ∧ F_X11_fault a1 V = (y, V')) := by
  refine pm_MT.of (by decide) ⟨Nat.le_refl _, by decide⟩ (fun av V h => by rw [h.1]; exact (by decide : pm_words [(3, 0), (0, 0)] ≤ 2)) ?_
  rintro X av V0 hC - hR ⟨rfl, hV0⟩
  change pm_J X 0 [(0, (3, 0)), (1, (0, a1))] [] 118 V0
  have hT := F_X11_fault_eq a1 V0
  refine pm_iload_n hC 1 dX11_fault_0 rfl ?_
  refine pm_if_ne (tgt := 16) hC ⟨by omega, by omega⟩ dX11_fault_1 (by decide) (fun c1 => ?_) (fun c1 => ?_)
  · skip
    replace hT := hT.trans (if_pos c1)
    refine pm_iload_n hC 1 dX11_fault_16 rfl ?_
    refine pm_iconst (v := 1) hC dX11_fault_17 ?_
    refine pm_icmp_ne (tgt := 33) hC ⟨by omega, by omega⟩ ⟨by decide, by decide⟩ dX11_fault_18 (by decide) (fun c2 => ?_) (fun c2 => ?_)
    · skip
      replace hT := hT.trans (if_pos c2)
      refine pm_ldc (v := (-2147483648)) hC 3153 dX11_fault_33 (by decide +kernel) ?_
      exact pm_iret hC hR pm_nar0 ⟨(-2147483648), rfl, ⟨by omega, by omega⟩, hV0, (pm_fr.rf (ws := [3, 45, 46, 47, 48, 49, 50, 51, 52, 53, 54, 55, 56, 57, 58, 59, 60, 61, 63, 64, 65, 66, 67, 69, 70, 71, 72]) (V := V0)), hT⟩ dX11_fault_35
    · skip
      replace hT := hT.trans (if_neg (fun q => q c2))
      refine pm_aload_n hC 0 (by decide) dX11_fault_21 rfl ?_
      have e3 : V0 0 2 = 72 := hV0.one 0 2 (by decide) (by decide) rfl
      refine pm_getf (v := 72) hC 0 fl_X11_66 rfl rfl (by decide) rfl e3 dX11_fault_22 ?_
      refine pm_aload_n hC 0 (by decide) dX11_fault_25 rfl ?_
      rcases hV0.get2 0 11 (lo := 57) (hi := 63) (by decide) (by decide) rfl with e4 | e4
      · skip
        replace hT := hT.trans (if_pos e4)
        refine pm_getf (v := 57) hC 0 fl_X11_49 rfl rfl (by decide) rfl e4 dX11_fault_26 ?_
        refine pm_callV (ci := 3) (as := [(3, 57)]) (st := []) hC 72 fC_X3_read_57 lm_X11_122 li_X3_read (by decide) (by decide) rfl rfl rfl (by decide) rfl rfl (Nat.le_of_ble_eq_true rfl) ⟨Nat.le_refl _, Or.inl rfl⟩ dX11_fault_29 ⟨rfl, hV0⟩ (fun r5 V6 hp7 => ?_)
        obtain ⟨y8, rfl, b9, hV10, hF11, hE12⟩ := hp7
        replace hT := hT.trans (pf_call_eq hE12)
        change pm_J X 32 [(0, (3, 0)), (1, (0, a1))] [(0, y8)] 118 V6
        have hF13 := pm_fr.tr (pm_fr.rf (ws := [3, 45, 46, 47, 48, 49, 50, 51, 52, 53, 54, 55, 56, 57, 58, 59, 60, 61, 63, 64, 65, 66, 67, 69, 70, 71, 72]) (V := V0)) hF11 (by decide)
        have e14 : V6 0 2 = 72 := by rw [hF11 0 (by decide)]; exact e3
        have e15 : V6 0 11 = 57 := by rw [hF11 0 (by decide)]; exact e4
        exact pm_iret hC hR pm_nar0 ⟨y8, rfl, ⟨by omega, by omega⟩, hV10, hF13, hT⟩ dX11_fault_32
      · skip
        replace hT := hT.trans (if_neg (by rw [e4]; decide))
        refine pm_getf (v := 63) hC 0 fl_X11_49 rfl rfl (by decide) rfl e4 dX11_fault_26 ?_
        refine pm_callV (ci := 3) (as := [(3, 63)]) (st := []) hC 72 fC_X3_read_63 lm_X11_122 li_X3_read (by decide) (by decide) rfl rfl rfl (by decide) rfl rfl (Nat.le_of_ble_eq_true rfl) ⟨Nat.le_refl _, Or.inl rfl⟩ dX11_fault_29 ⟨rfl, hV0⟩ (fun r16 V17 hp18 => ?_)
        obtain ⟨y19, rfl, b20, hV21, hF22, hE23⟩ := hp18
        replace hT := hT.trans (pf_call_eq hE23)
        change pm_J X 32 [(0, (3, 0)), (1, (0, a1))] [(0, y19)] 118 V17
        have hF24 := pm_fr.tr (pm_fr.rf (ws := [3, 45, 46, 47, 48, 49, 50, 51, 52, 53, 54, 55, 56, 57, 58, 59, 60, 61, 63, 64, 65, 66, 67, 69, 70, 71, 72]) (V := V0)) hF22 (by decide)
        have e25 : V17 0 2 = 72 := by rw [hF22 0 (by decide)]; exact e3
        have e26 : V17 0 11 = 63 := by rw [hF22 0 (by decide)]; exact e4
        exact pm_iret hC hR pm_nar0 ⟨y19, rfl, ⟨by omega, by omega⟩, hV21, hF24, hT⟩ dX11_fault_32
  · skip
    replace hT := hT.trans (if_neg (fun q => q c1))
    refine pm_aload_n hC 0 (by decide) dX11_fault_4 rfl ?_
    have e27 : V0 0 1 = 69 := hV0.one 0 1 (by decide) (by decide) rfl
    refine pm_getf (v := 69) hC 0 fl_X11_57 rfl rfl (by decide) rfl e27 dX11_fault_5 ?_
    refine pm_aload_n hC 0 (by decide) dX11_fault_8 rfl ?_
    rcases hV0.get2 0 9 (lo := 45) (hi := 51) (by decide) (by decide) rfl with e28 | e28
    · skip
      replace hT := hT.trans (if_pos e28)
      refine pm_getf (v := 45) hC 0 fl_X11_39 rfl rfl (by decide) rfl e28 dX11_fault_9 ?_
      refine pm_callV (ci := 6) (as := [(3, 45)]) (st := []) hC 69 fC_X6_read_45 lm_X11_118 li_X6_read (by decide) (by decide) rfl rfl rfl (by decide) rfl rfl (Nat.le_of_ble_eq_true rfl) ⟨Nat.le_refl _, Or.inl rfl⟩ dX11_fault_12 ⟨rfl, hV0⟩ (fun r29 V30 hp31 => ?_)
      obtain ⟨y32, rfl, b33, hV34, hF35, hE36⟩ := hp31
      replace hT := hT.trans (pf_call_eq hE36)
      change pm_J X 15 [(0, (3, 0)), (1, (0, a1))] [(0, y32)] 118 V30
      have hF37 := pm_fr.tr (pm_fr.rf (ws := [3, 45, 46, 47, 48, 49, 50, 51, 52, 53, 54, 55, 56, 57, 58, 59, 60, 61, 63, 64, 65, 66, 67, 69, 70, 71, 72]) (V := V0)) hF35 (by decide)
      have e38 : V30 0 1 = 69 := by rw [hF35 0 (by decide)]; exact e27
      have e39 : V30 0 9 = 45 := by rw [hF35 0 (by decide)]; exact e28
      exact pm_iret hC hR pm_nar0 ⟨y32, rfl, ⟨by omega, by omega⟩, hV34, hF37, hT⟩ dX11_fault_15
    · skip
      replace hT := hT.trans (if_neg (by rw [e28]; decide))
      refine pm_getf (v := 51) hC 0 fl_X11_39 rfl rfl (by decide) rfl e28 dX11_fault_9 ?_
      refine pm_callV (ci := 6) (as := [(3, 51)]) (st := []) hC 69 fC_X6_read_51 lm_X11_118 li_X6_read (by decide) (by decide) rfl rfl rfl (by decide) rfl rfl (Nat.le_of_ble_eq_true rfl) ⟨Nat.le_refl _, Or.inl rfl⟩ dX11_fault_12 ⟨rfl, hV0⟩ (fun r40 V41 hp42 => ?_)
      obtain ⟨y43, rfl, b44, hV45, hF46, hE47⟩ := hp42
      replace hT := hT.trans (pf_call_eq hE47)
      change pm_J X 15 [(0, (3, 0)), (1, (0, a1))] [(0, y43)] 118 V41
      have hF48 := pm_fr.tr (pm_fr.rf (ws := [3, 45, 46, 47, 48, 49, 50, 51, 52, 53, 54, 55, 56, 57, 58, 59, 60, 61, 63, 64, 65, 66, 67, 69, 70, 71, 72]) (V := V0)) hF46 (by decide)
      have e49 : V41 0 1 = 69 := by rw [hF46 0 (by decide)]; exact e27
      have e50 : V41 0 9 = 51 := by rw [hF46 0 (by decide)]; exact e28
      exact pm_iret hC hR pm_nar0 ⟨y43, rfl, ⟨by omega, by omega⟩, hV45, hF48, hT⟩ dX11_fault_15
set_option maxHeartbeats 4000000 in
set_option maxRecDepth 100000 in
theorem fC_X7_changePerson (a1 a2 a3 a4 : Int) (h0 : 0 ≤ a1 ∧ a1 ≤ 9) (h1 : (-30) ≤ a2 ∧ a2 ≤ 30) (h2 : (-30) ≤ a3 ∧ a3 ≤ 30) (h3 : 0 ≤ a4 ∧ a4 ≤ 16) : pm_K 1 yX7_changePerson cX7_changePerson 5 none (fun av V => av = [(3, 4), (0, a1), (0, a2), (0, a3), (0, a4)] ∧ pm_ok 0 90 V) (fun _ V r V' => r = none ∧ pm_ok 0 90 V' ∧ pm_fr [5, 6, 7] V V' ∧ F_X7_changePerson a1 a2 a3 a4 V = (0, V')) := by
  refine pm_MT.of (by decide) ⟨Nat.le_refl _, by decide⟩ (fun av V h => by rw [h.1]; exact (by decide : pm_words [(3, 0), (0, 0), (0, 0), (0, 0), (0, 0)] ≤ 5)) ?_
  rintro X av V0 hC - hR ⟨rfl, hV0⟩
  change pm_J X 0 [(0, (3, 4)), (1, (0, a1)), (2, (0, a2)), (3, (0, a3)), (4, (0, a4))] [] 118 V0
  have hT := F_X7_changePerson_eq a1 a2 a3 a4 V0
  refine pm_aload_n hC 0 (by decide) dX7_changePerson_0 rfl ?_
  have e1 : V0 4 2 = 5 := hV0.one 4 2 (by decide) (by decide) rfl
  refine pm_getf (v := 5) hC 4 fl_X7_19 rfl rfl (by decide) rfl e1 dX7_changePerson_1 ?_
  refine pm_iload_n hC 1 dX7_changePerson_4 rfl ?_
  refine pm_iload_n hC 2 dX7_changePerson_5 rfl ?_
  refine pm_iastore (len := 10) hC 5 rfl rfl (by decide) ⟨by omega, by omega⟩ (by decide) dX7_changePerson_6 ?_
  refine pm_aload_n hC 0 (by decide) dX7_changePerson_7 rfl ?_
  have e2 : V0 4 3 = 6 := hV0.one 4 3 (by decide) (by decide) rfl
  refine pm_getf (v := 6) hC 4 fl_X7_23 rfl rfl (by decide) rfl e2 dX7_changePerson_8 ?_
  refine pm_iload_n hC 1 dX7_changePerson_11 rfl ?_
  refine pm_iload_n hC 3 dX7_changePerson_12 rfl ?_
  refine pm_iastore (len := 10) hC 6 rfl rfl (by decide) ⟨by omega, by omega⟩ (by decide) dX7_changePerson_13 ?_
  refine pm_aload_n hC 0 (by decide) dX7_changePerson_14 rfl ?_
  have e3 : V0 4 4 = 7 := hV0.one 4 4 (by decide) (by decide) rfl
  refine pm_getf (v := 7) hC 4 fl_X7_26 rfl rfl (by decide) rfl e3 dX7_changePerson_15 ?_
  refine pm_iload_n hC 1 dX7_changePerson_18 rfl ?_
  refine pm_iload hC 4 dX7_changePerson_19 rfl ?_
  refine pm_iastore (len := 10) hC 7 rfl rfl (by decide) ⟨by omega, by omega⟩ (by decide) dX7_changePerson_21 ?_
  exact pm_vret hC hR ⟨rfl, (((hV0.put 5 (a1 : Int).toNat (x := a2) (lo := (-30)) (hi := 30) rfl ⟨by omega, by omega⟩).put 6 (a1 : Int).toNat (x := a3) (lo := (-30)) (hi := 30) rfl ⟨by omega, by omega⟩).put 7 (a1 : Int).toNat (x := a4) (lo := 0) (hi := 16) rfl ⟨by omega, by omega⟩), ((((pm_fr.rf (ws := [5, 6, 7]) (V := V0)).up 5 (a1 : Int).toNat a2 rfl).up 6 (a1 : Int).toNat a3 rfl).up 7 (a1 : Int).toNat a4 rfl), hT⟩ dX7_changePerson_22
set_option maxHeartbeats 4000000 in
set_option maxRecDepth 100000 in
theorem fC_X7_addPerson (a1 a2 a3 a4 : Int) (h0 : (-30) ≤ a1 ∧ a1 ≤ 30) (h1 : (-30) ≤ a2 ∧ a2 ≤ 30) (h2 : 0 ≤ a3 ∧ a3 ≤ 16) (h3 : 0 ≤ a4 ∧ a4 ≤ 3) : pm_K 2 yX7_addPerson cX7_addPerson 5 (some .int) (fun av V => av = [(3, 4), (0, a1), (0, a2), (0, a3), (0, a4)] ∧ pm_ok 0 90 V) (fun _ V r V' => ∃ y, r = some (0, y) ∧ ((-1) ≤ y ∧ y ≤ 9) ∧ pm_ok 0 90 V' ∧ pm_fr [4, 5, 6, 7, 8] V V' ∧ F_X7_addPerson a1 a2 a3 a4 V = (y, V')) := by
  refine pm_MT.of (by decide) ⟨Nat.le_refl _, by decide⟩ (fun av V h => by rw [h.1]; exact (by decide : pm_words [(3, 0), (0, 0), (0, 0), (0, 0), (0, 0)] ≤ 5)) ?_
  rintro X av V0 hC - hR ⟨rfl, hV0⟩
  change pm_J X 0 [(0, (3, 4)), (1, (0, a1)), (2, (0, a2)), (3, (0, a3)), (4, (0, a4))] [] 118 V0
  have hT := F_X7_addPerson_eq a1 a2 a3 a4 V0
  refine pm_aload_n hC 0 (by decide) dX7_addPerson_0 rfl ?_
  obtain ⟨y1, e2⟩ : ∃ y, V0 4 1 = y := ⟨_, rfl⟩
  have b3 := hV0.get 4 1 (lo := 0) (hi := 10) (by decide) (by decide) rfl
  rw [e2] at b3
  replace hT := hT.trans (pf_let_eq e2)
  refine pm_getf (v := y1) hC 4 fl_X7_15 rfl rfl (by decide) rfl e2 dX7_addPerson_1 ?_
  refine pm_bipush (v := 10) hC dX7_addPerson_4 (by decide) ?_
  refine pm_icmp_lt (tgt := 11) hC ⟨by omega, by omega⟩ ⟨by decide, by decide⟩ dX7_addPerson_6 (by decide) (fun c4 => ?_) (fun c4 => ?_)
  · skip
    replace hT := hT.trans (if_pos c4)
    refine pm_aload_n hC 0 (by decide) dX7_addPerson_11 rfl ?_
    have e5 : V0 4 5 = 8 := hV0.one 4 5 (by decide) (by decide) rfl
    refine pm_getf (v := 8) hC 4 fl_X7_29 rfl rfl (by decide) rfl e5 dX7_addPerson_12 ?_
    refine pm_aload_n hC 0 (by decide) dX7_addPerson_15 rfl ?_
    refine pm_getf (v := y1) hC 4 fl_X7_15 rfl rfl (by decide) rfl e2 dX7_addPerson_16 ?_
    refine pm_iload hC 4 dX7_addPerson_19 rfl ?_
    refine pm_iastore (len := 10) hC 8 rfl rfl (by decide) ⟨by omega, by omega⟩ (by decide) dX7_addPerson_21 ?_
    refine pm_aload_n hC 0 (by decide) dX7_addPerson_22 rfl ?_
    refine pm_aload_n hC 0 (by decide) dX7_addPerson_23 rfl ?_
    refine pm_getf (v := y1) hC 4 fl_X7_15 rfl rfl (by decide) rfl e2 dX7_addPerson_24 ?_
    refine pm_iload_n hC 1 dX7_addPerson_27 rfl ?_
    refine pm_iload_n hC 2 dX7_addPerson_28 rfl ?_
    refine pm_iload_n hC 3 dX7_addPerson_29 rfl ?_
    refine pm_callV (ci := 7) (as := [(0, y1), (0, a1), (0, a2), (0, a3)]) (st := []) hC 4 (fC_X7_changePerson y1 a1 a2 a3 ⟨by omega, by omega⟩ ⟨by omega, by omega⟩ ⟨by omega, by omega⟩ ⟨by omega, by omega⟩) lm_X7_55 li_X7_changePerson (by decide) (by decide) rfl rfl rfl (by decide) rfl rfl (Nat.le_of_ble_eq_true rfl) ⟨Nat.le_refl _, Or.inl rfl⟩ dX7_addPerson_30 ⟨rfl, (hV0.put 8 (y1 : Int).toNat (x := a4) (lo := 0) (hi := 3) rfl ⟨by omega, by omega⟩)⟩ (fun r6 V7 hp8 => ?_)
    obtain ⟨rfl, hV9, hF10, hE11⟩ := hp8
    replace hT := hT.trans (pf_call_eq hE11)
    change pm_J X 33 [(0, (3, 4)), (1, (0, a1)), (2, (0, a2)), (3, (0, a3)), (4, (0, a4))] [] 118 V7
    have hF12 := pm_fr.tr ((pm_fr.rf (ws := [4, 5, 6, 7, 8]) (V := V0)).up 8 (y1 : Int).toNat a4 rfl) hF10 (by decide)
    have e13 : V7 4 1 = y1 := by rw [hF10 4 (by decide)]; exact e2
    have e14 : V7 4 5 = 8 := by rw [hF10 4 (by decide)]; exact e5
    refine pm_aload_n hC 0 (by decide) dX7_addPerson_33 rfl ?_
    refine pm_dup hC rfl dX7_addPerson_34 ?_
    refine pm_getf (v := y1) hC 4 fl_X7_15 rfl rfl (by decide) rfl e13 dX7_addPerson_35 ?_
    refine pm_iconst (v := 1) hC dX7_addPerson_38 ?_
    refine pm_iadd hC dX7_addPerson_39 ?_
    refine pm_putf hC 4 fl_X7_15 rfl rfl rfl (by decide) rfl trivial dX7_addPerson_40 ?_
    refine pm_aload_n hC 0 (by decide) dX7_addPerson_43 rfl ?_
    refine pm_getf (v := (y1 + 1)) hC 4 fl_X7_15 rfl rfl (by decide) rfl rfl dX7_addPerson_44 ?_
    refine pm_iconst (v := 1) hC dX7_addPerson_47 ?_
    refine pm_isub hC dX7_addPerson_48 ?_
    exact pm_iret hC hR pm_nar0 ⟨((y1 + 1) - 1), rfl, ⟨by omega, by omega⟩, (hV9.put 4 1 (x := (y1 + 1)) (lo := 0) (hi := 10) rfl ⟨by omega, by omega⟩), (hF12.up 4 1 (y1 + 1) rfl), hT⟩ dX7_addPerson_49
  · skip
    replace hT := hT.trans (if_neg (Int.not_lt.mpr c4))
    refine pm_iconst (v := (-1)) hC dX7_addPerson_9 ?_
    exact pm_iret hC hR pm_nar0 ⟨(-1), rfl, ⟨by omega, by omega⟩, hV0, (pm_fr.rf (ws := [4, 5, 6, 7, 8]) (V := V0)), hT⟩ dX7_addPerson_10
set_option maxHeartbeats 4000000 in
set_option maxRecDepth 100000 in
theorem fC_X7_begin (a1 : Int) (h0 : 0 ≤ a1 ∧ a1 ≤ 16) : pm_K 3 yX7_begin cX7_begin 2 none (fun av V => av = [(3, 4), (0, a1)] ∧ pm_ok 0 90 V) (fun _ V r V' => r = none ∧ pm_ok 0 90 V' ∧ pm_fr [4, 5, 6, 7, 8] V V' ∧ F_X7_begin a1 V = (0, V')) := by
  refine pm_MT.of (by decide) ⟨Nat.le_refl _, by decide⟩ (fun av V h => by rw [h.1]; exact (by decide : pm_words [(3, 0), (0, 0)] ≤ 2)) ?_
  rintro X av V0 hC - hR ⟨rfl, hV0⟩
  change pm_J X 0 [(0, (3, 4)), (1, (0, a1))] [] 118 V0
  have hT := F_X7_begin_eq a1 V0
  refine pm_aload_n hC 0 (by decide) dX7_begin_0 rfl ?_
  refine pm_iconst (v := 0) hC dX7_begin_1 ?_
  refine pm_putf hC 4 fl_X7_15 rfl rfl rfl (by decide) rfl trivial dX7_begin_2 ?_
  refine pm_aload_n hC 0 (by decide) dX7_begin_5 rfl ?_
  refine pm_iconst (v := 0) hC dX7_begin_6 ?_
  refine pm_putf hC 4 fl_X7_32 rfl rfl rfl (by decide) rfl trivial dX7_begin_7 ?_
  refine pm_aload_n hC 0 (by decide) dX7_begin_10 rfl ?_
  refine pm_iconst (v := 0) hC dX7_begin_11 ?_
  refine pm_iconst (v := 0) hC dX7_begin_12 ?_
  refine pm_iload_n hC 1 dX7_begin_13 rfl ?_
  refine pm_iconst (v := 0) hC dX7_begin_14 ?_
  refine pm_callV (ci := 7) (as := [(0, 0), (0, 0), (0, a1), (0, 0)]) (st := []) hC 4 (fC_X7_addPerson 0 0 a1 0 ⟨by decide, by decide⟩ ⟨by decide, by decide⟩ ⟨by omega, by omega⟩ ⟨by decide, by decide⟩) lm_X7_51 li_X7_addPerson (by decide) (by decide) rfl rfl rfl (by decide) rfl rfl (Nat.le_of_ble_eq_true rfl) ⟨Nat.le_refl _, Or.inl rfl⟩ dX7_begin_15 ⟨rfl, ((hV0.put 4 1 (x := 0) (lo := 0) (hi := 10) rfl ⟨by decide, by decide⟩).put 4 6 (x := 0) (lo := 0) (hi := 60) rfl ⟨by decide, by decide⟩)⟩ (fun r1 V2 hp3 => ?_)
  obtain ⟨y4, rfl, b5, hV6, hF7, hE8⟩ := hp3
  replace hT := hT.trans (pf_call_eq hE8)
  change pm_J X 18 [(0, (3, 4)), (1, (0, a1))] [(0, y4)] 118 V2
  have hF9 := pm_fr.tr (((pm_fr.rf (ws := [4, 5, 6, 7, 8]) (V := V0)).up 4 1 0 rfl).up 4 6 0 rfl) hF7 (by decide)
  refine pm_pop hC rfl dX7_begin_18 ?_
  exact pm_vret hC hR ⟨rfl, hV6, hF9, hT⟩ dX7_begin_19
set_option maxHeartbeats 4000000 in
set_option maxRecDepth 100000 in
theorem fC_X11_scene  : pm_K 7 yX11_scene cX11_scene 3 (some .int) (fun av V => av = [(3, 0)] ∧ pm_ok 0 90 V) (fun _ V r V' => ∃ y, r = some (0, y) ∧ ((-1) ≤ y ∧ y ≤ 9) ∧ pm_ok 0 90 V' ∧ pm_fr [0, 1, 3, 4, 5, 6, 7, 8, 15, 25, 35, 45, 46, 47, 48, 49, 50, 51, 52, 53, 54, 55, 56, 69, 70, 71] V V' ∧ (V 0 9 = 45 → ∃ z W, F_X6_read 45 V = (z, W) ∧ ((z = -1 ∧ 0 ≤ y ∧ V' 1 1 = 0 ∧ y = W 45 0) ∨ (z ≠ -1 ∧ y = -1 ∧ V' = W))) ∧ (V 0 9 = 51 → ∃ z W, F_X6_read 51 V = (z, W) ∧ ((z = -1 ∧ 0 ≤ y ∧ V' 1 1 = 0 ∧ y = W 51 0) ∨ (z ≠ -1 ∧ y = -1 ∧ V' = W))) ∧ F_X11_scene  V = (y, V')) := by
  refine pm_MT.of (by decide) ⟨Nat.le_refl _, by decide⟩ (fun av V h => by rw [h.1]; exact (by decide : pm_words [(3, 0)] ≤ 3)) ?_
  rintro X av V0 hC - hR ⟨rfl, hV0⟩
  change pm_J X 0 [(0, (3, 0))] [] 118 V0
  have hT := F_X11_scene_eq  V0
  refine pm_aload_n hC 0 (by decide) dX11_scene_0 rfl ?_
  have e1 : V0 0 1 = 69 := hV0.one 0 1 (by decide) (by decide) rfl
  refine pm_getf (v := 69) hC 0 fl_X11_57 rfl rfl (by decide) rfl e1 dX11_scene_1 ?_
  refine pm_aload_n hC 0 (by decide) dX11_scene_4 rfl ?_
  rcases hV0.get2 0 9 (lo := 45) (hi := 51) (by decide) (by decide) rfl with e2 | e2
  · skip
    replace hT := hT.trans (if_pos e2)
    refine pm_getf (v := 45) hC 0 fl_X11_39 rfl rfl (by decide) rfl e2 dX11_scene_5 ?_
    refine pm_callV (ci := 6) (as := [(3, 45)]) (st := []) hC 69 fC_X6_read_45 lm_X11_118 li_X6_read (by decide) (by decide) rfl rfl rfl (by decide) rfl rfl (Nat.le_of_ble_eq_true rfl) ⟨Nat.le_refl _, Or.inl rfl⟩ dX11_scene_8 ⟨rfl, hV0⟩ (fun r3 V4 hp5 => ?_)
    obtain ⟨y6, rfl, b7, hV8, hF9, hE10⟩ := hp5
    replace hT := hT.trans (pf_call_eq hE10)
    change pm_J X 11 [(0, (3, 0))] [(0, y6)] 118 V4
    have hF11 := pm_fr.tr (pm_fr.rf (ws := [0, 1, 3, 4, 5, 6, 7, 8, 15, 25, 35, 45, 46, 47, 48, 49, 50, 51, 52, 53, 54, 55, 56, 69, 70, 71]) (V := V0)) hF9 (by decide)
    have e12 : V4 0 1 = 69 := by rw [hF9 0 (by decide)]; exact e1
    have e13 : V4 0 9 = 45 := by rw [hF9 0 (by decide)]; exact e2
    obtain ⟨y14, e15⟩ : ∃ y, V4 45 0 = y := ⟨_, rfl⟩
    have b16 := hV8.get 45 0 (lo := 0) (hi := 9) (by decide) (by decide) rfl
    rw [e15] at b16
    replace hT := hT.trans (pf_let_eq e15)
    refine pm_iconst (v := (-1)) hC dX11_scene_11 ?_
    refine pm_icmp_eq (tgt := 17) hC ⟨by omega, by omega⟩ ⟨by decide, by decide⟩ dX11_scene_12 (by decide) (fun c17 => ?_) (fun c17 => ?_)
    · skip
      replace hT := hT.trans (if_pos c17)
      refine pm_aload_n hC 0 (by decide) dX11_scene_17 rfl ?_
      rcases hV8.get2 0 8 (lo := 45) (hi := 51) (by decide) (by decide) rfl with e18 | e18
      · skip
        replace hT := hT.trans (if_pos e18)
        refine pm_getf (v := 45) hC 0 fl_X11_35 rfl rfl (by decide) rfl e18 dX11_scene_18 ?_
        refine pm_astore_n (lv' := [(1, (3, 45)), (0, (3, 0))]) hC (by decide) dX11_scene_21 (by decide) rfl ?_
        refine pm_aload_n hC 1 (by decide) dX11_scene_22 rfl ?_
        refine pm_aload_n hC 1 (by decide) dX11_scene_23 rfl ?_
        refine pm_getf (v := 45) hC 0 fl_X11_39 rfl rfl (by decide) rfl e13 dX11_scene_24 ?_
        refine pm_putf hC 0 fl_X11_35 rfl rfl rfl (by decide) rfl trivial dX11_scene_27 ?_
        refine pm_aload_n hC 1 (by decide) dX11_scene_30 rfl ?_
        refine pm_aload_n hC 0 (by decide) dX11_scene_31 rfl ?_
        refine pm_putf hC 0 fl_X11_39 rfl rfl rfl (by decide) rfl trivial dX11_scene_32 ?_
        refine pm_aload_n hC 1 (by decide) dX11_scene_35 rfl ?_
        have e19 : V4 0 0 = 1 := hV8.one 0 0 (by decide) (by decide) rfl
        refine pm_getf (v := 1) hC 0 fl_X11_10 rfl rfl (by decide) rfl e19 dX11_scene_36 ?_
        refine pm_iconst (v := 0) hC dX11_scene_39 ?_
        refine pm_putf hC 1 fl_X11_111 rfl rfl rfl (by decide) rfl trivial dX11_scene_40 ?_
        refine pm_aload_n hC 1 (by decide) dX11_scene_43 rfl ?_
        have e20 : V4 0 3 = 4 := hV8.one 0 3 (by decide) (by decide) rfl
        refine pm_getf (v := 4) hC 0 fl_X11_24 rfl rfl (by decide) rfl e20 dX11_scene_44 ?_
        refine pm_aload_n hC 1 (by decide) dX11_scene_47 rfl ?_
        refine pm_getf (v := 45) hC 0 fl_X11_35 rfl rfl (by decide) rfl rfl dX11_scene_48 ?_
        obtain ⟨y21, e22⟩ : ∃ y, V4 45 8 = y := ⟨_, rfl⟩
        have b23 := hV8.get 45 8 (lo := 0) (hi := 16) (by decide) (by decide) rfl
        rw [e22] at b23
        replace hT := hT.trans (pf_let_eq e22)
        refine pm_getf (v := y21) hC 45 fl_X11_126 rfl rfl (by decide) rfl e22 dX11_scene_51 ?_
        refine pm_callV (ci := 7) (as := [(0, y21)]) (st := []) hC 4 (fC_X7_begin y21 ⟨by omega, by omega⟩) lm_X11_129 li_X7_begin (by decide) (by decide) rfl rfl rfl (by decide) rfl rfl (Nat.le_of_ble_eq_true rfl) ⟨Nat.le_refl _, Or.inl rfl⟩ dX11_scene_54 ⟨rfl, (((hV8.put2 0 8 (x := 45) (lo := 45) (hi := 51) rfl ⟨by omega, by decide⟩).put2 0 9 (x := 45) (lo := 45) (hi := 51) rfl ⟨by omega, by decide⟩).put 1 1 (x := 0) (lo := 0) (hi := 500) rfl ⟨by decide, by decide⟩)⟩ (fun r24 V25 hp26 => ?_)
        obtain ⟨rfl, hV27, hF28, hE29⟩ := hp26
        replace hT := hT.trans (pf_call_eq hE29)
        change pm_J X 57 [(1, (3, 45)), (0, (3, 0))] [] 118 V25
        have hF30 := pm_fr.tr (((hF11.up 0 8 45 rfl).up 0 9 45 rfl).up 1 1 0 rfl) hF28 (by decide)
        have e31 : V25 0 1 = 69 := by rw [hF28 0 (by decide)]; exact e12
        have e32 : V25 45 0 = y14 := by rw [hF28 45 (by decide)]; exact e15
        have e33 : V25 0 0 = 1 := by rw [hF28 0 (by decide)]; exact e19
        have e34 : V25 0 3 = 4 := by rw [hF28 0 (by decide)]; exact e20
        have e35 : V25 45 8 = y21 := by rw [hF28 45 (by decide)]; exact e22
        have e36 : V25 0 8 = 45 := by rw [hF28 0 (by decide)]; rfl
        have e37 : V25 0 9 = 45 := by rw [hF28 0 (by decide)]; rfl
        have e38 : V25 1 1 = 0 := by rw [hF28 1 (by decide)]; rfl
        refine pm_iconst (v := 0) hC dX11_scene_57 ?_
        refine pm_istore_n (lv' := [(2, (0, 0)), (1, (3, 45)), (0, (3, 0))]) hC dX11_scene_58 (by decide) rfl ?_
        obtain ⟨B52, hB53, hT⟩ := pf_loop hT
        have L55 : ∀ (N57 : Nat) (x39 : Int) (V41 : pm_M), (0 ≤ x39 ∧ x39 ≤ 3) → pm_ok 0 90 V41 → pm_fr [0, 1, 3, 4, 5, 6, 7, 8, 15, 25, 35, 45, 46, 47, 48, 49, 50, 51, 52, 53, 54, 55, 56, 69, 70, 71] V0 V41 → V41 0 1 = 69 → V41 45 0 = y14 → V41 0 0 = 1 → V41 0 3 = 4 → V41 45 8 = y21 → V41 0 8 = 45 → V41 0 9 = 45 → V41 1 1 = 0 → F_X11_scene  V0 = pf_val ((0 : Int), V0) B52 (x39, V41) → (Int.toNat (3 - x39)) = N57 → pm_J X 59 [(0, (3, 0)), (1, (3, 45)), (2, (0, x39))] [] 118 V41 := by
          intro N57
          induction N57 using Nat.strongRecOn with
          | _ N57 ih58 =>
          intro x39 V41 b40 hV42 hF43 e44 e45 e46 e47 e48 e49 e50 e51 hT hm56
          have hb54 := congrFun hB53 (x39, V41)
          refine pm_iload_n hC 2 dX11_scene_59 rfl ?_
          refine pm_iconst (v := 3) hC dX11_scene_60 ?_
          refine pm_icmp_ge (tgt := 80) hC ⟨by omega, by omega⟩ ⟨by decide, by decide⟩ dX11_scene_61 (by decide) (fun c59 => ?_) (fun c59 => ?_)
          · skip
            replace hb54 := hb54.trans (if_pos c59)
            refine pm_aload_n hC 0 (by decide) dX11_scene_80 rfl ?_
            refine pm_getf (v := 45) hC 0 fl_X11_35 rfl rfl (by decide) rfl e49 dX11_scene_81 ?_
            refine pm_getf (v := y14) hC 45 fl_X11_136 rfl rfl (by decide) rfl e45 dX11_scene_84 ?_
            have hT := hT.trans (pf_val_inr hb54)
            exact pm_iret hC hR pm_nar0 ⟨y14, rfl, ⟨by omega, by omega⟩, hV42, hF43, (fun _ => ⟨y6, V4, hE10, Or.inl ⟨by omega, by omega, (show V41 1 1 = 0 from e51), (show y14 = V4 45 0 from e15.symm)⟩⟩), (fun q => absurd (((congrFun (hF9 0 (by decide)) 9).symm.trans e13).symm.trans q) (by decide)), hT⟩ dX11_scene_87
          · skip
            replace hb54 := hb54.trans (if_neg (Int.not_le.mpr c59))
            refine pm_aload_n hC 0 (by decide) dX11_scene_64 rfl ?_
            have e60 : V41 0 4 = 14 := hV42.one 0 4 (by decide) (by decide) rfl
            refine pm_getf (v := 14) hC 0 fl_X11_28 rfl rfl (by decide) rfl e60 dX11_scene_65 ?_
            refine pm_iload_n hC 2 dX11_scene_68 rfl ?_
            rcases (show x39 = (0 : Int) ∨ x39 = (1 : Int) ∨ x39 = (2 : Int) by omega) with hk | hk | hk
            · skip
              have e61 : V41 14 (x39 : Int).toNat = 15 := by rw [hk]; exact hV42.one 14 0 (by decide) (by decide) rfl
              replace hb54 := hb54.trans (if_pos hk)
              refine pm_aaload (len := 3) (v := 15) hC 14 rfl rfl (by decide) ⟨by omega, by omega⟩ (by decide) e61 dX11_scene_69 ?_
              refine pm_iconst (v := 0) hC dX11_scene_70 ?_
              refine pm_putf hC 15 fl_X11_132 rfl rfl rfl (by decide) rfl (by show _ = (0 : Int) ∨ _ = (1 : Int); omega) dX11_scene_71 ?_
              obtain ⟨x62, ei63⟩ : ∃ y : Int, x39 + 1 = y := ⟨_, rfl⟩
              replace hb54 := hb54.trans (pf_let_eq ei63)
              refine pm_iinc (y := x62) (lv' := [(2, (0, x62)), (0, (3, 0)), (1, (3, 45))]) hC 2 dX11_scene_74 (by decide) rfl ei63 rfl ?_
              refine pm_goto (tgt := 59) hC dX11_scene_77 (by decide) ?_
              refine pm_lvsub [1, 2, 0] (lv' := [(0, (3, 0)), (1, (3, 45)), (2, (0, x62))]) rfl ?_
              exact ih58 _ (by omega) x62 (pm_up V41 15 0 0) ⟨by omega, by omega⟩ (hV42.put 15 0 (x := 0) (lo := 0) (hi := 1) rfl ⟨by decide, by decide⟩) (hF43.up 15 0 0 rfl) e44 e45 e46 e47 e48 e49 e50 e51 (hT.trans (pf_val_inl hb54)) rfl
            · skip
              have e64 : V41 14 (x39 : Int).toNat = 25 := by rw [hk]; exact hV42.one 14 1 (by decide) (by decide) rfl
              replace hb54 := hb54.trans (if_neg (by omega))
              replace hb54 := hb54.trans (if_pos hk)
              refine pm_aaload (len := 3) (v := 25) hC 14 rfl rfl (by decide) ⟨by omega, by omega⟩ (by decide) e64 dX11_scene_69 ?_
              refine pm_iconst (v := 0) hC dX11_scene_70 ?_
              refine pm_putf hC 25 fl_X11_132 rfl rfl rfl (by decide) rfl (by show _ = (0 : Int) ∨ _ = (1 : Int); omega) dX11_scene_71 ?_
              obtain ⟨x65, ei66⟩ : ∃ y : Int, x39 + 1 = y := ⟨_, rfl⟩
              replace hb54 := hb54.trans (pf_let_eq ei66)
              refine pm_iinc (y := x65) (lv' := [(2, (0, x65)), (0, (3, 0)), (1, (3, 45))]) hC 2 dX11_scene_74 (by decide) rfl ei66 rfl ?_
              refine pm_goto (tgt := 59) hC dX11_scene_77 (by decide) ?_
              refine pm_lvsub [1, 2, 0] (lv' := [(0, (3, 0)), (1, (3, 45)), (2, (0, x65))]) rfl ?_
              exact ih58 _ (by omega) x65 (pm_up V41 25 0 0) ⟨by omega, by omega⟩ (hV42.put 25 0 (x := 0) (lo := 0) (hi := 1) rfl ⟨by decide, by decide⟩) (hF43.up 25 0 0 rfl) e44 e45 e46 e47 e48 e49 e50 e51 (hT.trans (pf_val_inl hb54)) rfl
            · skip
              have e67 : V41 14 (x39 : Int).toNat = 35 := by rw [hk]; exact hV42.one 14 2 (by decide) (by decide) rfl
              replace hb54 := hb54.trans (if_neg (by omega))
              replace hb54 := hb54.trans (if_neg (by omega))
              refine pm_aaload (len := 3) (v := 35) hC 14 rfl rfl (by decide) ⟨by omega, by omega⟩ (by decide) e67 dX11_scene_69 ?_
              refine pm_iconst (v := 0) hC dX11_scene_70 ?_
              refine pm_putf hC 35 fl_X11_132 rfl rfl rfl (by decide) rfl (by show _ = (0 : Int) ∨ _ = (1 : Int); omega) dX11_scene_71 ?_
              obtain ⟨x68, ei69⟩ : ∃ y : Int, x39 + 1 = y := ⟨_, rfl⟩
              replace hb54 := hb54.trans (pf_let_eq ei69)
              refine pm_iinc (y := x68) (lv' := [(2, (0, x68)), (0, (3, 0)), (1, (3, 45))]) hC 2 dX11_scene_74 (by decide) rfl ei69 rfl ?_
              refine pm_goto (tgt := 59) hC dX11_scene_77 (by decide) ?_
              refine pm_lvsub [1, 2, 0] (lv' := [(0, (3, 0)), (1, (3, 45)), (2, (0, x68))]) rfl ?_
              exact ih58 _ (by omega) x68 (pm_up V41 35 0 0) ⟨by omega, by omega⟩ (hV42.put 35 0 (x := 0) (lo := 0) (hi := 1) rfl ⟨by decide, by decide⟩) (hF43.up 35 0 0 rfl) e44 e45 e46 e47 e48 e49 e50 e51 (hT.trans (pf_val_inl hb54)) rfl
        refine pm_lvsub [2, 1, 0] (lv' := [(0, (3, 0)), (1, (3, 45)), (2, (0, 0))]) rfl ?_
        exact L55 _ 0 V25 ⟨by decide, by decide⟩ hV27 hF30 e31 e32 e33 e34 e35 e36 e37 e38 hT rfl
      · skip
        replace hT := hT.trans (if_neg (by rw [e18]; decide))
        refine pm_getf (v := 51) hC 0 fl_X11_35 rfl rfl (by decide) rfl e18 dX11_scene_18 ?_
        refine pm_astore_n (lv' := [(1, (3, 51)), (0, (3, 0))]) hC (by decide) dX11_scene_21 (by decide) rfl ?_
        refine pm_aload_n hC 1 (by decide) dX11_scene_22 rfl ?_
        refine pm_aload_n hC 1 (by decide) dX11_scene_23 rfl ?_
        refine pm_getf (v := 45) hC 0 fl_X11_39 rfl rfl (by decide) rfl e13 dX11_scene_24 ?_
        refine pm_putf hC 0 fl_X11_35 rfl rfl rfl (by decide) rfl trivial dX11_scene_27 ?_
        refine pm_aload_n hC 1 (by decide) dX11_scene_30 rfl ?_
        refine pm_aload_n hC 0 (by decide) dX11_scene_31 rfl ?_
        refine pm_putf hC 0 fl_X11_39 rfl rfl rfl (by decide) rfl trivial dX11_scene_32 ?_
        refine pm_aload_n hC 1 (by decide) dX11_scene_35 rfl ?_
        have e70 : V4 0 0 = 1 := hV8.one 0 0 (by decide) (by decide) rfl
        refine pm_getf (v := 1) hC 0 fl_X11_10 rfl rfl (by decide) rfl e70 dX11_scene_36 ?_
        refine pm_iconst (v := 0) hC dX11_scene_39 ?_
        refine pm_putf hC 1 fl_X11_111 rfl rfl rfl (by decide) rfl trivial dX11_scene_40 ?_
        refine pm_aload_n hC 1 (by decide) dX11_scene_43 rfl ?_
        have e71 : V4 0 3 = 4 := hV8.one 0 3 (by decide) (by decide) rfl
        refine pm_getf (v := 4) hC 0 fl_X11_24 rfl rfl (by decide) rfl e71 dX11_scene_44 ?_
        refine pm_aload_n hC 1 (by decide) dX11_scene_47 rfl ?_
        refine pm_getf (v := 45) hC 0 fl_X11_35 rfl rfl (by decide) rfl rfl dX11_scene_48 ?_
        obtain ⟨y72, e73⟩ : ∃ y, V4 45 8 = y := ⟨_, rfl⟩
        have b74 := hV8.get 45 8 (lo := 0) (hi := 16) (by decide) (by decide) rfl
        rw [e73] at b74
        replace hT := hT.trans (pf_let_eq e73)
        refine pm_getf (v := y72) hC 45 fl_X11_126 rfl rfl (by decide) rfl e73 dX11_scene_51 ?_
        refine pm_callV (ci := 7) (as := [(0, y72)]) (st := []) hC 4 (fC_X7_begin y72 ⟨by omega, by omega⟩) lm_X11_129 li_X7_begin (by decide) (by decide) rfl rfl rfl (by decide) rfl rfl (Nat.le_of_ble_eq_true rfl) ⟨Nat.le_refl _, Or.inl rfl⟩ dX11_scene_54 ⟨rfl, (((hV8.put2 0 8 (x := 45) (lo := 45) (hi := 51) rfl ⟨by omega, by decide⟩).put2 0 9 (x := 51) (lo := 45) (hi := 51) rfl ⟨by omega, by decide⟩).put 1 1 (x := 0) (lo := 0) (hi := 500) rfl ⟨by decide, by decide⟩)⟩ (fun r75 V76 hp77 => ?_)
        obtain ⟨rfl, hV78, hF79, hE80⟩ := hp77
        replace hT := hT.trans (pf_call_eq hE80)
        change pm_J X 57 [(1, (3, 51)), (0, (3, 0))] [] 118 V76
        have hF81 := pm_fr.tr (((hF11.up 0 8 45 rfl).up 0 9 51 rfl).up 1 1 0 rfl) hF79 (by decide)
        have e82 : V76 0 1 = 69 := by rw [hF79 0 (by decide)]; exact e12
        have e83 : V76 45 0 = y14 := by rw [hF79 45 (by decide)]; exact e15
        have e84 : V76 0 0 = 1 := by rw [hF79 0 (by decide)]; exact e70
        have e85 : V76 0 3 = 4 := by rw [hF79 0 (by decide)]; exact e71
        have e86 : V76 45 8 = y72 := by rw [hF79 45 (by decide)]; exact e73
        have e87 : V76 0 8 = 45 := by rw [hF79 0 (by decide)]; rfl
        have e88 : V76 0 9 = 51 := by rw [hF79 0 (by decide)]; rfl
        have e89 : V76 1 1 = 0 := by rw [hF79 1 (by decide)]; rfl
        refine pm_iconst (v := 0) hC dX11_scene_57 ?_
        refine pm_istore_n (lv' := [(2, (0, 0)), (1, (3, 51)), (0, (3, 0))]) hC dX11_scene_58 (by decide) rfl ?_
        obtain ⟨B103, hB104, hT⟩ := pf_loop hT
        have L106 : ∀ (N108 : Nat) (x90 : Int) (V92 : pm_M), (0 ≤ x90 ∧ x90 ≤ 3) → pm_ok 0 90 V92 → pm_fr [0, 1, 3, 4, 5, 6, 7, 8, 15, 25, 35, 45, 46, 47, 48, 49, 50, 51, 52, 53, 54, 55, 56, 69, 70, 71] V0 V92 → V92 0 1 = 69 → V92 45 0 = y14 → V92 0 0 = 1 → V92 0 3 = 4 → V92 45 8 = y72 → V92 0 8 = 45 → V92 0 9 = 51 → V92 1 1 = 0 → F_X11_scene  V0 = pf_val ((0 : Int), V0) B103 (x90, V92) → (Int.toNat (3 - x90)) = N108 → pm_J X 59 [(0, (3, 0)), (1, (3, 51)), (2, (0, x90))] [] 118 V92 := by
          intro N108
          induction N108 using Nat.strongRecOn with
          | _ N108 ih109 =>
          intro x90 V92 b91 hV93 hF94 e95 e96 e97 e98 e99 e100 e101 e102 hT hm107
          have hb105 := congrFun hB104 (x90, V92)
          refine pm_iload_n hC 2 dX11_scene_59 rfl ?_
          refine pm_iconst (v := 3) hC dX11_scene_60 ?_
          refine pm_icmp_ge (tgt := 80) hC ⟨by omega, by omega⟩ ⟨by decide, by decide⟩ dX11_scene_61 (by decide) (fun c110 => ?_) (fun c110 => ?_)
          · skip
            replace hb105 := hb105.trans (if_pos c110)
            refine pm_aload_n hC 0 (by decide) dX11_scene_80 rfl ?_
            refine pm_getf (v := 45) hC 0 fl_X11_35 rfl rfl (by decide) rfl e100 dX11_scene_81 ?_
            refine pm_getf (v := y14) hC 45 fl_X11_136 rfl rfl (by decide) rfl e96 dX11_scene_84 ?_
            have hT := hT.trans (pf_val_inr hb105)
            exact pm_iret hC hR pm_nar0 ⟨y14, rfl, ⟨by omega, by omega⟩, hV93, hF94, (fun _ => ⟨y6, V4, hE10, Or.inl ⟨by omega, by omega, (show V92 1 1 = 0 from e102), (show y14 = V4 45 0 from e15.symm)⟩⟩), (fun q => absurd (((congrFun (hF9 0 (by decide)) 9).symm.trans e13).symm.trans q) (by decide)), hT⟩ dX11_scene_87
          · skip
            replace hb105 := hb105.trans (if_neg (Int.not_le.mpr c110))
            refine pm_aload_n hC 0 (by decide) dX11_scene_64 rfl ?_
            have e111 : V92 0 4 = 14 := hV93.one 0 4 (by decide) (by decide) rfl
            refine pm_getf (v := 14) hC 0 fl_X11_28 rfl rfl (by decide) rfl e111 dX11_scene_65 ?_
            refine pm_iload_n hC 2 dX11_scene_68 rfl ?_
            rcases (show x90 = (0 : Int) ∨ x90 = (1 : Int) ∨ x90 = (2 : Int) by omega) with hk | hk | hk
            · skip
              have e112 : V92 14 (x90 : Int).toNat = 15 := by rw [hk]; exact hV93.one 14 0 (by decide) (by decide) rfl
              replace hb105 := hb105.trans (if_pos hk)
              refine pm_aaload (len := 3) (v := 15) hC 14 rfl rfl (by decide) ⟨by omega, by omega⟩ (by decide) e112 dX11_scene_69 ?_
              refine pm_iconst (v := 0) hC dX11_scene_70 ?_
              refine pm_putf hC 15 fl_X11_132 rfl rfl rfl (by decide) rfl (by show _ = (0 : Int) ∨ _ = (1 : Int); omega) dX11_scene_71 ?_
              obtain ⟨x113, ei114⟩ : ∃ y : Int, x90 + 1 = y := ⟨_, rfl⟩
              replace hb105 := hb105.trans (pf_let_eq ei114)
              refine pm_iinc (y := x113) (lv' := [(2, (0, x113)), (0, (3, 0)), (1, (3, 51))]) hC 2 dX11_scene_74 (by decide) rfl ei114 rfl ?_
              refine pm_goto (tgt := 59) hC dX11_scene_77 (by decide) ?_
              refine pm_lvsub [1, 2, 0] (lv' := [(0, (3, 0)), (1, (3, 51)), (2, (0, x113))]) rfl ?_
              exact ih109 _ (by omega) x113 (pm_up V92 15 0 0) ⟨by omega, by omega⟩ (hV93.put 15 0 (x := 0) (lo := 0) (hi := 1) rfl ⟨by decide, by decide⟩) (hF94.up 15 0 0 rfl) e95 e96 e97 e98 e99 e100 e101 e102 (hT.trans (pf_val_inl hb105)) rfl
            · skip
              have e115 : V92 14 (x90 : Int).toNat = 25 := by rw [hk]; exact hV93.one 14 1 (by decide) (by decide) rfl
              replace hb105 := hb105.trans (if_neg (by omega))
              replace hb105 := hb105.trans (if_pos hk)
              refine pm_aaload (len := 3) (v := 25) hC 14 rfl rfl (by decide) ⟨by omega, by omega⟩ (by decide) e115 dX11_scene_69 ?_
              refine pm_iconst (v := 0) hC dX11_scene_70 ?_
              refine pm_putf hC 25 fl_X11_132 rfl rfl rfl (by decide) rfl (by show _ = (0 : Int) ∨ _ = (1 : Int); omega) dX11_scene_71 ?_
              obtain ⟨x116, ei117⟩ : ∃ y : Int, x90 + 1 = y := ⟨_, rfl⟩
              replace hb105 := hb105.trans (pf_let_eq ei117)
              refine pm_iinc (y := x116) (lv' := [(2, (0, x116)), (0, (3, 0)), (1, (3, 51))]) hC 2 dX11_scene_74 (by decide) rfl ei117 rfl ?_
              refine pm_goto (tgt := 59) hC dX11_scene_77 (by decide) ?_
              refine pm_lvsub [1, 2, 0] (lv' := [(0, (3, 0)), (1, (3, 51)), (2, (0, x116))]) rfl ?_
              exact ih109 _ (by omega) x116 (pm_up V92 25 0 0) ⟨by omega, by omega⟩ (hV93.put 25 0 (x := 0) (lo := 0) (hi := 1) rfl ⟨by decide, by decide⟩) (hF94.up 25 0 0 rfl) e95 e96 e97 e98 e99 e100 e101 e102 (hT.trans (pf_val_inl hb105)) rfl
            · skip
              have e118 : V92 14 (x90 : Int).toNat = 35 := by rw [hk]; exact hV93.one 14 2 (by decide) (by decide) rfl
              replace hb105 := hb105.trans (if_neg (by omega))
              replace hb105 := hb105.trans (if_neg (by omega))
              refine pm_aaload (len := 3) (v := 35) hC 14 rfl rfl (by decide) ⟨by omega, by omega⟩ (by decide) e118 dX11_scene_69 ?_
              refine pm_iconst (v := 0) hC dX11_scene_70 ?_
              refine pm_putf hC 35 fl_X11_132 rfl rfl rfl (by decide) rfl (by show _ = (0 : Int) ∨ _ = (1 : Int); omega) dX11_scene_71 ?_
              obtain ⟨x119, ei120⟩ : ∃ y : Int, x90 + 1 = y := ⟨_, rfl⟩
              replace hb105 := hb105.trans (pf_let_eq ei120)
              refine pm_iinc (y := x119) (lv' := [(2, (0, x119)), (0, (3, 0)), (1, (3, 51))]) hC 2 dX11_scene_74 (by decide) rfl ei120 rfl ?_
              refine pm_goto (tgt := 59) hC dX11_scene_77 (by decide) ?_
              refine pm_lvsub [1, 2, 0] (lv' := [(0, (3, 0)), (1, (3, 51)), (2, (0, x119))]) rfl ?_
              exact ih109 _ (by omega) x119 (pm_up V92 35 0 0) ⟨by omega, by omega⟩ (hV93.put 35 0 (x := 0) (lo := 0) (hi := 1) rfl ⟨by decide, by decide⟩) (hF94.up 35 0 0 rfl) e95 e96 e97 e98 e99 e100 e101 e102 (hT.trans (pf_val_inl hb105)) rfl
        refine pm_lvsub [2, 1, 0] (lv' := [(0, (3, 0)), (1, (3, 51)), (2, (0, 0))]) rfl ?_
        exact L106 _ 0 V76 ⟨by decide, by decide⟩ hV78 hF81 e82 e83 e84 e85 e86 e87 e88 e89 hT rfl
    · skip
      replace hT := hT.trans (if_neg c17)
      refine pm_iconst (v := (-1)) hC dX11_scene_15 ?_
      exact pm_iret hC hR pm_nar0 ⟨(-1), rfl, ⟨by omega, by omega⟩, hV8, hF11, (fun _ => ⟨y6, V4, hE10, Or.inr ⟨by omega, rfl, rfl⟩⟩), (fun q => absurd (((congrFun (hF9 0 (by decide)) 9).symm.trans e13).symm.trans q) (by decide)), hT⟩ dX11_scene_16
  · skip
    replace hT := hT.trans (if_neg (by rw [e2]; decide))
    refine pm_getf (v := 51) hC 0 fl_X11_39 rfl rfl (by decide) rfl e2 dX11_scene_5 ?_
    refine pm_callV (ci := 6) (as := [(3, 51)]) (st := []) hC 69 fC_X6_read_51 lm_X11_118 li_X6_read (by decide) (by decide) rfl rfl rfl (by decide) rfl rfl (Nat.le_of_ble_eq_true rfl) ⟨Nat.le_refl _, Or.inl rfl⟩ dX11_scene_8 ⟨rfl, hV0⟩ (fun r121 V122 hp123 => ?_)
    obtain ⟨y124, rfl, b125, hV126, hF127, hE128⟩ := hp123
    replace hT := hT.trans (pf_call_eq hE128)
    change pm_J X 11 [(0, (3, 0))] [(0, y124)] 118 V122
    have hF129 := pm_fr.tr (pm_fr.rf (ws := [0, 1, 3, 4, 5, 6, 7, 8, 15, 25, 35, 45, 46, 47, 48, 49, 50, 51, 52, 53, 54, 55, 56, 69, 70, 71]) (V := V0)) hF127 (by decide)
    have e130 : V122 0 1 = 69 := by rw [hF127 0 (by decide)]; exact e1
    have e131 : V122 0 9 = 51 := by rw [hF127 0 (by decide)]; exact e2
    obtain ⟨y132, e133⟩ : ∃ y, V122 51 0 = y := ⟨_, rfl⟩
    have b134 := hV126.get 51 0 (lo := 0) (hi := 9) (by decide) (by decide) rfl
    rw [e133] at b134
    replace hT := hT.trans (pf_let_eq e133)
    refine pm_iconst (v := (-1)) hC dX11_scene_11 ?_
    refine pm_icmp_eq (tgt := 17) hC ⟨by omega, by omega⟩ ⟨by decide, by decide⟩ dX11_scene_12 (by decide) (fun c135 => ?_) (fun c135 => ?_)
    · skip
      replace hT := hT.trans (if_pos c135)
      refine pm_aload_n hC 0 (by decide) dX11_scene_17 rfl ?_
      rcases hV126.get2 0 8 (lo := 45) (hi := 51) (by decide) (by decide) rfl with e136 | e136
      · skip
        replace hT := hT.trans (if_pos e136)
        refine pm_getf (v := 45) hC 0 fl_X11_35 rfl rfl (by decide) rfl e136 dX11_scene_18 ?_
        refine pm_astore_n (lv' := [(1, (3, 45)), (0, (3, 0))]) hC (by decide) dX11_scene_21 (by decide) rfl ?_
        refine pm_aload_n hC 1 (by decide) dX11_scene_22 rfl ?_
        refine pm_aload_n hC 1 (by decide) dX11_scene_23 rfl ?_
        refine pm_getf (v := 51) hC 0 fl_X11_39 rfl rfl (by decide) rfl e131 dX11_scene_24 ?_
        refine pm_putf hC 0 fl_X11_35 rfl rfl rfl (by decide) rfl trivial dX11_scene_27 ?_
        refine pm_aload_n hC 1 (by decide) dX11_scene_30 rfl ?_
        refine pm_aload_n hC 0 (by decide) dX11_scene_31 rfl ?_
        refine pm_putf hC 0 fl_X11_39 rfl rfl rfl (by decide) rfl trivial dX11_scene_32 ?_
        refine pm_aload_n hC 1 (by decide) dX11_scene_35 rfl ?_
        have e137 : V122 0 0 = 1 := hV126.one 0 0 (by decide) (by decide) rfl
        refine pm_getf (v := 1) hC 0 fl_X11_10 rfl rfl (by decide) rfl e137 dX11_scene_36 ?_
        refine pm_iconst (v := 0) hC dX11_scene_39 ?_
        refine pm_putf hC 1 fl_X11_111 rfl rfl rfl (by decide) rfl trivial dX11_scene_40 ?_
        refine pm_aload_n hC 1 (by decide) dX11_scene_43 rfl ?_
        have e138 : V122 0 3 = 4 := hV126.one 0 3 (by decide) (by decide) rfl
        refine pm_getf (v := 4) hC 0 fl_X11_24 rfl rfl (by decide) rfl e138 dX11_scene_44 ?_
        refine pm_aload_n hC 1 (by decide) dX11_scene_47 rfl ?_
        refine pm_getf (v := 51) hC 0 fl_X11_35 rfl rfl (by decide) rfl rfl dX11_scene_48 ?_
        obtain ⟨y139, e140⟩ : ∃ y, V122 51 8 = y := ⟨_, rfl⟩
        have b141 := hV126.get 51 8 (lo := 0) (hi := 16) (by decide) (by decide) rfl
        rw [e140] at b141
        replace hT := hT.trans (pf_let_eq e140)
        refine pm_getf (v := y139) hC 51 fl_X11_126 rfl rfl (by decide) rfl e140 dX11_scene_51 ?_
        refine pm_callV (ci := 7) (as := [(0, y139)]) (st := []) hC 4 (fC_X7_begin y139 ⟨by omega, by omega⟩) lm_X11_129 li_X7_begin (by decide) (by decide) rfl rfl rfl (by decide) rfl rfl (Nat.le_of_ble_eq_true rfl) ⟨Nat.le_refl _, Or.inl rfl⟩ dX11_scene_54 ⟨rfl, (((hV126.put2 0 8 (x := 51) (lo := 45) (hi := 51) rfl ⟨by omega, by decide⟩).put2 0 9 (x := 45) (lo := 45) (hi := 51) rfl ⟨by omega, by decide⟩).put 1 1 (x := 0) (lo := 0) (hi := 500) rfl ⟨by decide, by decide⟩)⟩ (fun r142 V143 hp144 => ?_)
        obtain ⟨rfl, hV145, hF146, hE147⟩ := hp144
        replace hT := hT.trans (pf_call_eq hE147)
        change pm_J X 57 [(1, (3, 45)), (0, (3, 0))] [] 118 V143
        have hF148 := pm_fr.tr (((hF129.up 0 8 51 rfl).up 0 9 45 rfl).up 1 1 0 rfl) hF146 (by decide)
        have e149 : V143 0 1 = 69 := by rw [hF146 0 (by decide)]; exact e130
        have e150 : V143 51 0 = y132 := by rw [hF146 51 (by decide)]; exact e133
        have e151 : V143 0 0 = 1 := by rw [hF146 0 (by decide)]; exact e137
        have e152 : V143 0 3 = 4 := by rw [hF146 0 (by decide)]; exact e138
        have e153 : V143 51 8 = y139 := by rw [hF146 51 (by decide)]; exact e140
        have e154 : V143 0 8 = 51 := by rw [hF146 0 (by decide)]; rfl
        have e155 : V143 0 9 = 45 := by rw [hF146 0 (by decide)]; rfl
        have e156 : V143 1 1 = 0 := by rw [hF146 1 (by decide)]; rfl
        refine pm_iconst (v := 0) hC dX11_scene_57 ?_
        refine pm_istore_n (lv' := [(2, (0, 0)), (1, (3, 45)), (0, (3, 0))]) hC dX11_scene_58 (by decide) rfl ?_
        obtain ⟨B170, hB171, hT⟩ := pf_loop hT
        have L173 : ∀ (N175 : Nat) (x157 : Int) (V159 : pm_M), (0 ≤ x157 ∧ x157 ≤ 3) → pm_ok 0 90 V159 → pm_fr [0, 1, 3, 4, 5, 6, 7, 8, 15, 25, 35, 45, 46, 47, 48, 49, 50, 51, 52, 53, 54, 55, 56, 69, 70, 71] V0 V159 → V159 0 1 = 69 → V159 51 0 = y132 → V159 0 0 = 1 → V159 0 3 = 4 → V159 51 8 = y139 → V159 0 8 = 51 → V159 0 9 = 45 → V159 1 1 = 0 → F_X11_scene  V0 = pf_val ((0 : Int), V0) B170 (x157, V159) → (Int.toNat (3 - x157)) = N175 → pm_J X 59 [(0, (3, 0)), (1, (3, 45)), (2, (0, x157))] [] 118 V159 := by
          intro N175
          induction N175 using Nat.strongRecOn with
          | _ N175 ih176 =>
          intro x157 V159 b158 hV160 hF161 e162 e163 e164 e165 e166 e167 e168 e169 hT hm174
          have hb172 := congrFun hB171 (x157, V159)
          refine pm_iload_n hC 2 dX11_scene_59 rfl ?_
          refine pm_iconst (v := 3) hC dX11_scene_60 ?_
          refine pm_icmp_ge (tgt := 80) hC ⟨by omega, by omega⟩ ⟨by decide, by decide⟩ dX11_scene_61 (by decide) (fun c177 => ?_) (fun c177 => ?_)
          · skip
            replace hb172 := hb172.trans (if_pos c177)
            refine pm_aload_n hC 0 (by decide) dX11_scene_80 rfl ?_
            refine pm_getf (v := 51) hC 0 fl_X11_35 rfl rfl (by decide) rfl e167 dX11_scene_81 ?_
            refine pm_getf (v := y132) hC 51 fl_X11_136 rfl rfl (by decide) rfl e163 dX11_scene_84 ?_
            have hT := hT.trans (pf_val_inr hb172)
            exact pm_iret hC hR pm_nar0 ⟨y132, rfl, ⟨by omega, by omega⟩, hV160, hF161, (fun q => absurd (((congrFun (hF127 0 (by decide)) 9).symm.trans e131).symm.trans q) (by decide)), (fun _ => ⟨y124, V122, hE128, Or.inl ⟨by omega, by omega, (show V159 1 1 = 0 from e169), (show y132 = V122 51 0 from e133.symm)⟩⟩), hT⟩ dX11_scene_87
          · skip
            replace hb172 := hb172.trans (if_neg (Int.not_le.mpr c177))
            refine pm_aload_n hC 0 (by decide) dX11_scene_64 rfl ?_
            have e178 : V159 0 4 = 14 := hV160.one 0 4 (by decide) (by decide) rfl
            refine pm_getf (v := 14) hC 0 fl_X11_28 rfl rfl (by decide) rfl e178 dX11_scene_65 ?_
            refine pm_iload_n hC 2 dX11_scene_68 rfl ?_
            rcases (show x157 = (0 : Int) ∨ x157 = (1 : Int) ∨ x157 = (2 : Int) by omega) with hk | hk | hk
            · skip
              have e179 : V159 14 (x157 : Int).toNat = 15 := by rw [hk]; exact hV160.one 14 0 (by decide) (by decide) rfl
              replace hb172 := hb172.trans (if_pos hk)
              refine pm_aaload (len := 3) (v := 15) hC 14 rfl rfl (by decide) ⟨by omega, by omega⟩ (by decide) e179 dX11_scene_69 ?_
              refine pm_iconst (v := 0) hC dX11_scene_70 ?_
              refine pm_putf hC 15 fl_X11_132 rfl rfl rfl (by decide) rfl (by show _ = (0 : Int) ∨ _ = (1 : Int); omega) dX11_scene_71 ?_
              obtain ⟨x180, ei181⟩ : ∃ y : Int, x157 + 1 = y := ⟨_, rfl⟩
              replace hb172 := hb172.trans (pf_let_eq ei181)
              refine pm_iinc (y := x180) (lv' := [(2, (0, x180)), (0, (3, 0)), (1, (3, 45))]) hC 2 dX11_scene_74 (by decide) rfl ei181 rfl ?_
              refine pm_goto (tgt := 59) hC dX11_scene_77 (by decide) ?_
              refine pm_lvsub [1, 2, 0] (lv' := [(0, (3, 0)), (1, (3, 45)), (2, (0, x180))]) rfl ?_
              exact ih176 _ (by omega) x180 (pm_up V159 15 0 0) ⟨by omega, by omega⟩ (hV160.put 15 0 (x := 0) (lo := 0) (hi := 1) rfl ⟨by decide, by decide⟩) (hF161.up 15 0 0 rfl) e162 e163 e164 e165 e166 e167 e168 e169 (hT.trans (pf_val_inl hb172)) rfl
            · skip
              have e182 : V159 14 (x157 : Int).toNat = 25 := by rw [hk]; exact hV160.one 14 1 (by decide) (by decide) rfl
              replace hb172 := hb172.trans (if_neg (by omega))
              replace hb172 := hb172.trans (if_pos hk)
              refine pm_aaload (len := 3) (v := 25) hC 14 rfl rfl (by decide) ⟨by omega, by omega⟩ (by decide) e182 dX11_scene_69 ?_
              refine pm_iconst (v := 0) hC dX11_scene_70 ?_
              refine pm_putf hC 25 fl_X11_132 rfl rfl rfl (by decide) rfl (by show _ = (0 : Int) ∨ _ = (1 : Int); omega) dX11_scene_71 ?_
              obtain ⟨x183, ei184⟩ : ∃ y : Int, x157 + 1 = y := ⟨_, rfl⟩
              replace hb172 := hb172.trans (pf_let_eq ei184)
              refine pm_iinc (y := x183) (lv' := [(2, (0, x183)), (0, (3, 0)), (1, (3, 45))]) hC 2 dX11_scene_74 (by decide) rfl ei184 rfl ?_
              refine pm_goto (tgt := 59) hC dX11_scene_77 (by decide) ?_
              refine pm_lvsub [1, 2, 0] (lv' := [(0, (3, 0)), (1, (3, 45)), (2, (0, x183))]) rfl ?_
              exact ih176 _ (by omega) x183 (pm_up V159 25 0 0) ⟨by omega, by omega⟩ (hV160.put 25 0 (x := 0) (lo := 0) (hi := 1) rfl ⟨by decide, by decide⟩) (hF161.up 25 0 0 rfl) e162 e163 e164 e165 e166 e167 e168 e169 (hT.trans (pf_val_inl hb172)) rfl
            · skip
              have e185 : V159 14 (x157 : Int).toNat = 35 := by rw [hk]; exact hV160.one 14 2 (by decide) (by decide) rfl
              replace hb172 := hb172.trans (if_neg (by omega))
              replace hb172 := hb172.trans (if_neg (by omega))
              refine pm_aaload (len := 3) (v := 35) hC 14 rfl rfl (by decide) ⟨by omega, by omega⟩ (by decide) e185 dX11_scene_69 ?_
              refine pm_iconst (v := 0) hC dX11_scene_70 ?_
              refine pm_putf hC 35 fl_X11_132 rfl rfl rfl (by decide) rfl (by show _ = (0 : Int) ∨ _ = (1 : Int); omega) dX11_scene_71 ?_
              obtain ⟨x186, ei187⟩ : ∃ y : Int, x157 + 1 = y := ⟨_, rfl⟩
              replace hb172 := hb172.trans (pf_let_eq ei187)
              refine pm_iinc (y := x186) (lv' := [(2, (0, x186)), (0, (3, 0)), (1, (3, 45))]) hC 2 dX11_scene_74 (by decide) rfl ei187 rfl ?_
              refine pm_goto (tgt := 59) hC dX11_scene_77 (by decide) ?_
              refine pm_lvsub [1, 2, 0] (lv' := [(0, (3, 0)), (1, (3, 45)), (2, (0, x186))]) rfl ?_
              exact ih176 _ (by omega) x186 (pm_up V159 35 0 0) ⟨by omega, by omega⟩ (hV160.put 35 0 (x := 0) (lo := 0) (hi := 1) rfl ⟨by decide, by decide⟩) (hF161.up 35 0 0 rfl) e162 e163 e164 e165 e166 e167 e168 e169 (hT.trans (pf_val_inl hb172)) rfl
        refine pm_lvsub [2, 1, 0] (lv' := [(0, (3, 0)), (1, (3, 45)), (2, (0, 0))]) rfl ?_
        exact L173 _ 0 V143 ⟨by decide, by decide⟩ hV145 hF148 e149 e150 e151 e152 e153 e154 e155 e156 hT rfl
      · skip
        replace hT := hT.trans (if_neg (by rw [e136]; decide))
        refine pm_getf (v := 51) hC 0 fl_X11_35 rfl rfl (by decide) rfl e136 dX11_scene_18 ?_
        refine pm_astore_n (lv' := [(1, (3, 51)), (0, (3, 0))]) hC (by decide) dX11_scene_21 (by decide) rfl ?_
        refine pm_aload_n hC 1 (by decide) dX11_scene_22 rfl ?_
        refine pm_aload_n hC 1 (by decide) dX11_scene_23 rfl ?_
        refine pm_getf (v := 51) hC 0 fl_X11_39 rfl rfl (by decide) rfl e131 dX11_scene_24 ?_
        refine pm_putf hC 0 fl_X11_35 rfl rfl rfl (by decide) rfl trivial dX11_scene_27 ?_
        refine pm_aload_n hC 1 (by decide) dX11_scene_30 rfl ?_
        refine pm_aload_n hC 0 (by decide) dX11_scene_31 rfl ?_
        refine pm_putf hC 0 fl_X11_39 rfl rfl rfl (by decide) rfl trivial dX11_scene_32 ?_
        refine pm_aload_n hC 1 (by decide) dX11_scene_35 rfl ?_
        have e188 : V122 0 0 = 1 := hV126.one 0 0 (by decide) (by decide) rfl
        refine pm_getf (v := 1) hC 0 fl_X11_10 rfl rfl (by decide) rfl e188 dX11_scene_36 ?_
        refine pm_iconst (v := 0) hC dX11_scene_39 ?_
        refine pm_putf hC 1 fl_X11_111 rfl rfl rfl (by decide) rfl trivial dX11_scene_40 ?_
        refine pm_aload_n hC 1 (by decide) dX11_scene_43 rfl ?_
        have e189 : V122 0 3 = 4 := hV126.one 0 3 (by decide) (by decide) rfl
        refine pm_getf (v := 4) hC 0 fl_X11_24 rfl rfl (by decide) rfl e189 dX11_scene_44 ?_
        refine pm_aload_n hC 1 (by decide) dX11_scene_47 rfl ?_
        refine pm_getf (v := 51) hC 0 fl_X11_35 rfl rfl (by decide) rfl rfl dX11_scene_48 ?_
        obtain ⟨y190, e191⟩ : ∃ y, V122 51 8 = y := ⟨_, rfl⟩
        have b192 := hV126.get 51 8 (lo := 0) (hi := 16) (by decide) (by decide) rfl
        rw [e191] at b192
        replace hT := hT.trans (pf_let_eq e191)
        refine pm_getf (v := y190) hC 51 fl_X11_126 rfl rfl (by decide) rfl e191 dX11_scene_51 ?_
        refine pm_callV (ci := 7) (as := [(0, y190)]) (st := []) hC 4 (fC_X7_begin y190 ⟨by omega, by omega⟩) lm_X11_129 li_X7_begin (by decide) (by decide) rfl rfl rfl (by decide) rfl rfl (Nat.le_of_ble_eq_true rfl) ⟨Nat.le_refl _, Or.inl rfl⟩ dX11_scene_54 ⟨rfl, (((hV126.put2 0 8 (x := 51) (lo := 45) (hi := 51) rfl ⟨by omega, by decide⟩).put2 0 9 (x := 51) (lo := 45) (hi := 51) rfl ⟨by omega, by decide⟩).put 1 1 (x := 0) (lo := 0) (hi := 500) rfl ⟨by decide, by decide⟩)⟩ (fun r193 V194 hp195 => ?_)
        obtain ⟨rfl, hV196, hF197, hE198⟩ := hp195
        replace hT := hT.trans (pf_call_eq hE198)
        change pm_J X 57 [(1, (3, 51)), (0, (3, 0))] [] 118 V194
        have hF199 := pm_fr.tr (((hF129.up 0 8 51 rfl).up 0 9 51 rfl).up 1 1 0 rfl) hF197 (by decide)
        have e200 : V194 0 1 = 69 := by rw [hF197 0 (by decide)]; exact e130
        have e201 : V194 51 0 = y132 := by rw [hF197 51 (by decide)]; exact e133
        have e202 : V194 0 0 = 1 := by rw [hF197 0 (by decide)]; exact e188
        have e203 : V194 0 3 = 4 := by rw [hF197 0 (by decide)]; exact e189
        have e204 : V194 51 8 = y190 := by rw [hF197 51 (by decide)]; exact e191
        have e205 : V194 0 8 = 51 := by rw [hF197 0 (by decide)]; rfl
        have e206 : V194 0 9 = 51 := by rw [hF197 0 (by decide)]; rfl
        have e207 : V194 1 1 = 0 := by rw [hF197 1 (by decide)]; rfl
        refine pm_iconst (v := 0) hC dX11_scene_57 ?_
        refine pm_istore_n (lv' := [(2, (0, 0)), (1, (3, 51)), (0, (3, 0))]) hC dX11_scene_58 (by decide) rfl ?_
        obtain ⟨B221, hB222, hT⟩ := pf_loop hT
        have L224 : ∀ (N226 : Nat) (x208 : Int) (V210 : pm_M), (0 ≤ x208 ∧ x208 ≤ 3) → pm_ok 0 90 V210 → pm_fr [0, 1, 3, 4, 5, 6, 7, 8, 15, 25, 35, 45, 46, 47, 48, 49, 50, 51, 52, 53, 54, 55, 56, 69, 70, 71] V0 V210 → V210 0 1 = 69 → V210 51 0 = y132 → V210 0 0 = 1 → V210 0 3 = 4 → V210 51 8 = y190 → V210 0 8 = 51 → V210 0 9 = 51 → V210 1 1 = 0 → F_X11_scene  V0 = pf_val ((0 : Int), V0) B221 (x208, V210) → (Int.toNat (3 - x208)) = N226 → pm_J X 59 [(0, (3, 0)), (1, (3, 51)), (2, (0, x208))] [] 118 V210 := by
          intro N226
          induction N226 using Nat.strongRecOn with
          | _ N226 ih227 =>
          intro x208 V210 b209 hV211 hF212 e213 e214 e215 e216 e217 e218 e219 e220 hT hm225
          have hb223 := congrFun hB222 (x208, V210)
          refine pm_iload_n hC 2 dX11_scene_59 rfl ?_
          refine pm_iconst (v := 3) hC dX11_scene_60 ?_
          refine pm_icmp_ge (tgt := 80) hC ⟨by omega, by omega⟩ ⟨by decide, by decide⟩ dX11_scene_61 (by decide) (fun c228 => ?_) (fun c228 => ?_)
          · skip
            replace hb223 := hb223.trans (if_pos c228)
            refine pm_aload_n hC 0 (by decide) dX11_scene_80 rfl ?_
            refine pm_getf (v := 51) hC 0 fl_X11_35 rfl rfl (by decide) rfl e218 dX11_scene_81 ?_
            refine pm_getf (v := y132) hC 51 fl_X11_136 rfl rfl (by decide) rfl e214 dX11_scene_84 ?_
            have hT := hT.trans (pf_val_inr hb223)
            exact pm_iret hC hR pm_nar0 ⟨y132, rfl, ⟨by omega, by omega⟩, hV211, hF212, (fun q => absurd (((congrFun (hF127 0 (by decide)) 9).symm.trans e131).symm.trans q) (by decide)), (fun _ => ⟨y124, V122, hE128, Or.inl ⟨by omega, by omega, (show V210 1 1 = 0 from e220), (show y132 = V122 51 0 from e133.symm)⟩⟩), hT⟩ dX11_scene_87
          · skip
            replace hb223 := hb223.trans (if_neg (Int.not_le.mpr c228))
            refine pm_aload_n hC 0 (by decide) dX11_scene_64 rfl ?_
            have e229 : V210 0 4 = 14 := hV211.one 0 4 (by decide) (by decide) rfl
            refine pm_getf (v := 14) hC 0 fl_X11_28 rfl rfl (by decide) rfl e229 dX11_scene_65 ?_
            refine pm_iload_n hC 2 dX11_scene_68 rfl ?_
            rcases (show x208 = (0 : Int) ∨ x208 = (1 : Int) ∨ x208 = (2 : Int) by omega) with hk | hk | hk
            · skip
              have e230 : V210 14 (x208 : Int).toNat = 15 := by rw [hk]; exact hV211.one 14 0 (by decide) (by decide) rfl
              replace hb223 := hb223.trans (if_pos hk)
              refine pm_aaload (len := 3) (v := 15) hC 14 rfl rfl (by decide) ⟨by omega, by omega⟩ (by decide) e230 dX11_scene_69 ?_
              refine pm_iconst (v := 0) hC dX11_scene_70 ?_
              refine pm_putf hC 15 fl_X11_132 rfl rfl rfl (by decide) rfl (by show _ = (0 : Int) ∨ _ = (1 : Int); omega) dX11_scene_71 ?_
              obtain ⟨x231, ei232⟩ : ∃ y : Int, x208 + 1 = y := ⟨_, rfl⟩
              replace hb223 := hb223.trans (pf_let_eq ei232)
              refine pm_iinc (y := x231) (lv' := [(2, (0, x231)), (0, (3, 0)), (1, (3, 51))]) hC 2 dX11_scene_74 (by decide) rfl ei232 rfl ?_
              refine pm_goto (tgt := 59) hC dX11_scene_77 (by decide) ?_
              refine pm_lvsub [1, 2, 0] (lv' := [(0, (3, 0)), (1, (3, 51)), (2, (0, x231))]) rfl ?_
              exact ih227 _ (by omega) x231 (pm_up V210 15 0 0) ⟨by omega, by omega⟩ (hV211.put 15 0 (x := 0) (lo := 0) (hi := 1) rfl ⟨by decide, by decide⟩) (hF212.up 15 0 0 rfl) e213 e214 e215 e216 e217 e218 e219 e220 (hT.trans (pf_val_inl hb223)) rfl
            · skip
              have e233 : V210 14 (x208 : Int).toNat = 25 := by rw [hk]; exact hV211.one 14 1 (by decide) (by decide) rfl
              replace hb223 := hb223.trans (if_neg (by omega))
              replace hb223 := hb223.trans (if_pos hk)
              refine pm_aaload (len := 3) (v := 25) hC 14 rfl rfl (by decide) ⟨by omega, by omega⟩ (by decide) e233 dX11_scene_69 ?_
              refine pm_iconst (v := 0) hC dX11_scene_70 ?_
              refine pm_putf hC 25 fl_X11_132 rfl rfl rfl (by decide) rfl (by show _ = (0 : Int) ∨ _ = (1 : Int); omega) dX11_scene_71 ?_
              obtain ⟨x234, ei235⟩ : ∃ y : Int, x208 + 1 = y := ⟨_, rfl⟩
              replace hb223 := hb223.trans (pf_let_eq ei235)
              refine pm_iinc (y := x234) (lv' := [(2, (0, x234)), (0, (3, 0)), (1, (3, 51))]) hC 2 dX11_scene_74 (by decide) rfl ei235 rfl ?_
              refine pm_goto (tgt := 59) hC dX11_scene_77 (by decide) ?_
              refine pm_lvsub [1, 2, 0] (lv' := [(0, (3, 0)), (1, (3, 51)), (2, (0, x234))]) rfl ?_
              exact ih227 _ (by omega) x234 (pm_up V210 25 0 0) ⟨by omega, by omega⟩ (hV211.put 25 0 (x := 0) (lo := 0) (hi := 1) rfl ⟨by decide, by decide⟩) (hF212.up 25 0 0 rfl) e213 e214 e215 e216 e217 e218 e219 e220 (hT.trans (pf_val_inl hb223)) rfl
            · skip
              have e236 : V210 14 (x208 : Int).toNat = 35 := by rw [hk]; exact hV211.one 14 2 (by decide) (by decide) rfl
              replace hb223 := hb223.trans (if_neg (by omega))
              replace hb223 := hb223.trans (if_neg (by omega))
              refine pm_aaload (len := 3) (v := 35) hC 14 rfl rfl (by decide) ⟨by omega, by omega⟩ (by decide) e236 dX11_scene_69 ?_
              refine pm_iconst (v := 0) hC dX11_scene_70 ?_
              refine pm_putf hC 35 fl_X11_132 rfl rfl rfl (by decide) rfl (by show _ = (0 : Int) ∨ _ = (1 : Int); omega) dX11_scene_71 ?_
              obtain ⟨x237, ei238⟩ : ∃ y : Int, x208 + 1 = y := ⟨_, rfl⟩
              replace hb223 := hb223.trans (pf_let_eq ei238)
              refine pm_iinc (y := x237) (lv' := [(2, (0, x237)), (0, (3, 0)), (1, (3, 51))]) hC 2 dX11_scene_74 (by decide) rfl ei238 rfl ?_
              refine pm_goto (tgt := 59) hC dX11_scene_77 (by decide) ?_
              refine pm_lvsub [1, 2, 0] (lv' := [(0, (3, 0)), (1, (3, 51)), (2, (0, x237))]) rfl ?_
              exact ih227 _ (by omega) x237 (pm_up V210 35 0 0) ⟨by omega, by omega⟩ (hV211.put 35 0 (x := 0) (lo := 0) (hi := 1) rfl ⟨by decide, by decide⟩) (hF212.up 35 0 0 rfl) e213 e214 e215 e216 e217 e218 e219 e220 (hT.trans (pf_val_inl hb223)) rfl
        refine pm_lvsub [2, 1, 0] (lv' := [(0, (3, 0)), (1, (3, 51)), (2, (0, 0))]) rfl ?_
        exact L224 _ 0 V194 ⟨by decide, by decide⟩ hV196 hF199 e200 e201 e202 e203 e204 e205 e206 e207 hT rfl
    · skip
      replace hT := hT.trans (if_neg c135)
      refine pm_iconst (v := (-1)) hC dX11_scene_15 ?_
      exact pm_iret hC hR pm_nar0 ⟨(-1), rfl, ⟨by omega, by omega⟩, hV126, hF129, (fun q => absurd (((congrFun (hF127 0 (by decide)) 9).symm.trans e131).symm.trans q) (by decide)), (fun _ => ⟨y124, V122, hE128, Or.inr ⟨by omega, rfl, rfl⟩⟩), hT⟩ dX11_scene_16
set_option maxHeartbeats 4000000 in
set_option maxRecDepth 100000 in
theorem fC_X11_rules  : pm_K 32 yX11_rules cX11_rules 2 (some .int) (fun av V => av = [(3, 0)] ∧ pm_ok 0 90 V) (fun _ V r V' => ∃ y, r = some (0, y) ∧ ((-1) ≤ y ∧ y ≤ 10) ∧ pm_ok 0 90 V' ∧ pm_fr [0, 1, 3, 57, 58, 59, 60, 61, 63, 64, 65, 66, 67, 72] V V' ∧ (V 0 11 = 57 → ∃ z W, F_X3_read 57 V = (z, W) ∧ ((z = -1 ∧ 0 ≤ y ∧ V' 1 1 = 0 ∧ y = W 57 0) ∨ (z ≠ -1 ∧ y = -1 ∧ V' = W))) ∧ (V 0 11 = 63 → ∃ z W, F_X3_read 63 V = (z, W) ∧ ((z = -1 ∧ 0 ≤ y ∧ V' 1 1 = 0 ∧ y = W 63 0) ∨ (z ≠ -1 ∧ y = -1 ∧ V' = W))) ∧ F_X11_rules  V = (y, V')) := by
  refine pm_MT.of (by decide) ⟨Nat.le_refl _, by decide⟩ (fun av V h => by rw [h.1]; exact (by decide : pm_words [(3, 0)] ≤ 2)) ?_
  rintro X av V0 hC - hR ⟨rfl, hV0⟩
  change pm_J X 0 [(0, (3, 0))] [] 118 V0
  have hT := F_X11_rules_eq  V0
  refine pm_aload_n hC 0 (by decide) dX11_rules_0 rfl ?_
  have e1 : V0 0 2 = 72 := hV0.one 0 2 (by decide) (by decide) rfl
  refine pm_getf (v := 72) hC 0 fl_X11_66 rfl rfl (by decide) rfl e1 dX11_rules_1 ?_
  refine pm_aload_n hC 0 (by decide) dX11_rules_4 rfl ?_
  rcases hV0.get2 0 11 (lo := 57) (hi := 63) (by decide) (by decide) rfl with e2 | e2
  · skip
    replace hT := hT.trans (if_pos e2)
    refine pm_getf (v := 57) hC 0 fl_X11_49 rfl rfl (by decide) rfl e2 dX11_rules_5 ?_
    refine pm_callV (ci := 3) (as := [(3, 57)]) (st := []) hC 72 fC_X3_read_57 lm_X11_122 li_X3_read (by decide) (by decide) rfl rfl rfl (by decide) rfl rfl (Nat.le_of_ble_eq_true rfl) ⟨Nat.le_refl _, Or.inl rfl⟩ dX11_rules_8 ⟨rfl, hV0⟩ (fun r3 V4 hp5 => ?_)
    obtain ⟨y6, rfl, b7, hV8, hF9, hE10⟩ := hp5
    replace hT := hT.trans (pf_call_eq hE10)
    change pm_J X 11 [(0, (3, 0))] [(0, y6)] 118 V4
    have hF11 := pm_fr.tr (pm_fr.rf (ws := [0, 1, 3, 57, 58, 59, 60, 61, 63, 64, 65, 66, 67, 72]) (V := V0)) hF9 (by decide)
    have e12 : V4 0 2 = 72 := by rw [hF9 0 (by decide)]; exact e1
    have e13 : V4 0 11 = 57 := by rw [hF9 0 (by decide)]; exact e2
    obtain ⟨y14, e15⟩ : ∃ y, V4 57 0 = y := ⟨_, rfl⟩
    have b16 := hV8.get 57 0 (lo := 0) (hi := 10) (by decide) (by decide) rfl
    rw [e15] at b16
    replace hT := hT.trans (pf_let_eq e15)
    refine pm_iconst (v := (-1)) hC dX11_rules_11 ?_
    refine pm_icmp_eq (tgt := 17) hC ⟨by omega, by omega⟩ ⟨by decide, by decide⟩ dX11_rules_12 (by decide) (fun c17 => ?_) (fun c17 => ?_)
    · skip
      replace hT := hT.trans (if_pos c17)
      refine pm_aload_n hC 0 (by decide) dX11_rules_17 rfl ?_
      rcases hV8.get2 0 10 (lo := 57) (hi := 63) (by decide) (by decide) rfl with e18 | e18
      · skip
        replace hT := hT.trans (if_pos e18)
        refine pm_getf (v := 57) hC 0 fl_X11_45 rfl rfl (by decide) rfl e18 dX11_rules_18 ?_
        refine pm_astore_n (lv' := [(1, (3, 57)), (0, (3, 0))]) hC (by decide) dX11_rules_21 (by decide) rfl ?_
        refine pm_aload_n hC 1 (by decide) dX11_rules_22 rfl ?_
        refine pm_aload_n hC 1 (by decide) dX11_rules_23 rfl ?_
        refine pm_getf (v := 57) hC 0 fl_X11_49 rfl rfl (by decide) rfl e13 dX11_rules_24 ?_
        refine pm_putf hC 0 fl_X11_45 rfl rfl rfl (by decide) rfl trivial dX11_rules_27 ?_
        refine pm_aload_n hC 1 (by decide) dX11_rules_30 rfl ?_
        refine pm_aload_n hC 0 (by decide) dX11_rules_31 rfl ?_
        refine pm_putf hC 0 fl_X11_49 rfl rfl rfl (by decide) rfl trivial dX11_rules_32 ?_
        refine pm_aload_n hC 1 (by decide) dX11_rules_35 rfl ?_
        have e19 : V4 0 0 = 1 := hV8.one 0 0 (by decide) (by decide) rfl
        refine pm_getf (v := 1) hC 0 fl_X11_10 rfl rfl (by decide) rfl e19 dX11_rules_36 ?_
        refine pm_iconst (v := 0) hC dX11_rules_39 ?_
        refine pm_putf hC 1 fl_X11_111 rfl rfl rfl (by decide) rfl trivial dX11_rules_40 ?_
        refine pm_aload_n hC 1 (by decide) dX11_rules_43 rfl ?_
        refine pm_getf (v := 57) hC 0 fl_X11_45 rfl rfl (by decide) rfl rfl dX11_rules_44 ?_
        refine pm_getf (v := y14) hC 57 fl_X11_139 rfl rfl (by decide) rfl e15 dX11_rules_47 ?_
        exact pm_iret hC hR pm_nar0 ⟨y14, rfl, ⟨by omega, by omega⟩, (((hV8.put2 0 10 (x := 57) (lo := 57) (hi := 63) rfl ⟨by omega, by decide⟩).put2 0 11 (x := 57) (lo := 57) (hi := 63) rfl ⟨by omega, by decide⟩).put 1 1 (x := 0) (lo := 0) (hi := 500) rfl ⟨by decide, by decide⟩), (((hF11.up 0 10 57 rfl).up 0 11 57 rfl).up 1 1 0 rfl), (fun _ => ⟨y6, V4, hE10, Or.inl ⟨by omega, by omega, (show (pm_up (pm_up (pm_up V4 0 10 57) 0 11 57) 1 1 0) 1 1 = 0 from rfl), (show y14 = V4 57 0 from e15.symm)⟩⟩), (fun q => absurd (((congrFun (hF9 0 (by decide)) 11).symm.trans e13).symm.trans q) (by decide)), hT⟩ dX11_rules_50
      · skip
        replace hT := hT.trans (if_neg (by rw [e18]; decide))
        refine pm_getf (v := 63) hC 0 fl_X11_45 rfl rfl (by decide) rfl e18 dX11_rules_18 ?_
        refine pm_astore_n (lv' := [(1, (3, 63)), (0, (3, 0))]) hC (by decide) dX11_rules_21 (by decide) rfl ?_
        refine pm_aload_n hC 1 (by decide) dX11_rules_22 rfl ?_
        refine pm_aload_n hC 1 (by decide) dX11_rules_23 rfl ?_
        refine pm_getf (v := 57) hC 0 fl_X11_49 rfl rfl (by decide) rfl e13 dX11_rules_24 ?_
        refine pm_putf hC 0 fl_X11_45 rfl rfl rfl (by decide) rfl trivial dX11_rules_27 ?_
        refine pm_aload_n hC 1 (by decide) dX11_rules_30 rfl ?_
        refine pm_aload_n hC 0 (by decide) dX11_rules_31 rfl ?_
        refine pm_putf hC 0 fl_X11_49 rfl rfl rfl (by decide) rfl trivial dX11_rules_32 ?_
        refine pm_aload_n hC 1 (by decide) dX11_rules_35 rfl ?_
        have e20 : V4 0 0 = 1 := hV8.one 0 0 (by decide) (by decide) rfl
        refine pm_getf (v := 1) hC 0 fl_X11_10 rfl rfl (by decide) rfl e20 dX11_rules_36 ?_
        refine pm_iconst (v := 0) hC dX11_rules_39 ?_
        refine pm_putf hC 1 fl_X11_111 rfl rfl rfl (by decide) rfl trivial dX11_rules_40 ?_
        refine pm_aload_n hC 1 (by decide) dX11_rules_43 rfl ?_
        refine pm_getf (v := 57) hC 0 fl_X11_45 rfl rfl (by decide) rfl rfl dX11_rules_44 ?_
        refine pm_getf (v := y14) hC 57 fl_X11_139 rfl rfl (by decide) rfl e15 dX11_rules_47 ?_
        exact pm_iret hC hR pm_nar0 ⟨y14, rfl, ⟨by omega, by omega⟩, (((hV8.put2 0 10 (x := 57) (lo := 57) (hi := 63) rfl ⟨by omega, by decide⟩).put2 0 11 (x := 63) (lo := 57) (hi := 63) rfl ⟨by omega, by decide⟩).put 1 1 (x := 0) (lo := 0) (hi := 500) rfl ⟨by decide, by decide⟩), (((hF11.up 0 10 57 rfl).up 0 11 63 rfl).up 1 1 0 rfl), (fun _ => ⟨y6, V4, hE10, Or.inl ⟨by omega, by omega, (show (pm_up (pm_up (pm_up V4 0 10 57) 0 11 63) 1 1 0) 1 1 = 0 from rfl), (show y14 = V4 57 0 from e15.symm)⟩⟩), (fun q => absurd (((congrFun (hF9 0 (by decide)) 11).symm.trans e13).symm.trans q) (by decide)), hT⟩ dX11_rules_50
    · skip
      replace hT := hT.trans (if_neg c17)
      refine pm_iconst (v := (-1)) hC dX11_rules_15 ?_
      exact pm_iret hC hR pm_nar0 ⟨(-1), rfl, ⟨by omega, by omega⟩, hV8, hF11, (fun _ => ⟨y6, V4, hE10, Or.inr ⟨by omega, rfl, rfl⟩⟩), (fun q => absurd (((congrFun (hF9 0 (by decide)) 11).symm.trans e13).symm.trans q) (by decide)), hT⟩ dX11_rules_16
  · skip
    replace hT := hT.trans (if_neg (by rw [e2]; decide))
    refine pm_getf (v := 63) hC 0 fl_X11_49 rfl rfl (by decide) rfl e2 dX11_rules_5 ?_
    refine pm_callV (ci := 3) (as := [(3, 63)]) (st := []) hC 72 fC_X3_read_63 lm_X11_122 li_X3_read (by decide) (by decide) rfl rfl rfl (by decide) rfl rfl (Nat.le_of_ble_eq_true rfl) ⟨Nat.le_refl _, Or.inl rfl⟩ dX11_rules_8 ⟨rfl, hV0⟩ (fun r21 V22 hp23 => ?_)
    obtain ⟨y24, rfl, b25, hV26, hF27, hE28⟩ := hp23
    replace hT := hT.trans (pf_call_eq hE28)
    change pm_J X 11 [(0, (3, 0))] [(0, y24)] 118 V22
    have hF29 := pm_fr.tr (pm_fr.rf (ws := [0, 1, 3, 57, 58, 59, 60, 61, 63, 64, 65, 66, 67, 72]) (V := V0)) hF27 (by decide)
    have e30 : V22 0 2 = 72 := by rw [hF27 0 (by decide)]; exact e1
    have e31 : V22 0 11 = 63 := by rw [hF27 0 (by decide)]; exact e2
    obtain ⟨y32, e33⟩ : ∃ y, V22 63 0 = y := ⟨_, rfl⟩
    have b34 := hV26.get 63 0 (lo := 0) (hi := 10) (by decide) (by decide) rfl
    rw [e33] at b34
    replace hT := hT.trans (pf_let_eq e33)
    refine pm_iconst (v := (-1)) hC dX11_rules_11 ?_
    refine pm_icmp_eq (tgt := 17) hC ⟨by omega, by omega⟩ ⟨by decide, by decide⟩ dX11_rules_12 (by decide) (fun c35 => ?_) (fun c35 => ?_)
    · skip
      replace hT := hT.trans (if_pos c35)
      refine pm_aload_n hC 0 (by decide) dX11_rules_17 rfl ?_
      rcases hV26.get2 0 10 (lo := 57) (hi := 63) (by decide) (by decide) rfl with e36 | e36
      · skip
        replace hT := hT.trans (if_pos e36)
        refine pm_getf (v := 57) hC 0 fl_X11_45 rfl rfl (by decide) rfl e36 dX11_rules_18 ?_
        refine pm_astore_n (lv' := [(1, (3, 57)), (0, (3, 0))]) hC (by decide) dX11_rules_21 (by decide) rfl ?_
        refine pm_aload_n hC 1 (by decide) dX11_rules_22 rfl ?_
        refine pm_aload_n hC 1 (by decide) dX11_rules_23 rfl ?_
        refine pm_getf (v := 63) hC 0 fl_X11_49 rfl rfl (by decide) rfl e31 dX11_rules_24 ?_
        refine pm_putf hC 0 fl_X11_45 rfl rfl rfl (by decide) rfl trivial dX11_rules_27 ?_
        refine pm_aload_n hC 1 (by decide) dX11_rules_30 rfl ?_
        refine pm_aload_n hC 0 (by decide) dX11_rules_31 rfl ?_
        refine pm_putf hC 0 fl_X11_49 rfl rfl rfl (by decide) rfl trivial dX11_rules_32 ?_
        refine pm_aload_n hC 1 (by decide) dX11_rules_35 rfl ?_
        have e37 : V22 0 0 = 1 := hV26.one 0 0 (by decide) (by decide) rfl
        refine pm_getf (v := 1) hC 0 fl_X11_10 rfl rfl (by decide) rfl e37 dX11_rules_36 ?_
        refine pm_iconst (v := 0) hC dX11_rules_39 ?_
        refine pm_putf hC 1 fl_X11_111 rfl rfl rfl (by decide) rfl trivial dX11_rules_40 ?_
        refine pm_aload_n hC 1 (by decide) dX11_rules_43 rfl ?_
        refine pm_getf (v := 63) hC 0 fl_X11_45 rfl rfl (by decide) rfl rfl dX11_rules_44 ?_
        refine pm_getf (v := y32) hC 63 fl_X11_139 rfl rfl (by decide) rfl e33 dX11_rules_47 ?_
        exact pm_iret hC hR pm_nar0 ⟨y32, rfl, ⟨by omega, by omega⟩, (((hV26.put2 0 10 (x := 63) (lo := 57) (hi := 63) rfl ⟨by omega, by decide⟩).put2 0 11 (x := 57) (lo := 57) (hi := 63) rfl ⟨by omega, by decide⟩).put 1 1 (x := 0) (lo := 0) (hi := 500) rfl ⟨by decide, by decide⟩), (((hF29.up 0 10 63 rfl).up 0 11 57 rfl).up 1 1 0 rfl), (fun q => absurd (((congrFun (hF27 0 (by decide)) 11).symm.trans e31).symm.trans q) (by decide)), (fun _ => ⟨y24, V22, hE28, Or.inl ⟨by omega, by omega, (show (pm_up (pm_up (pm_up V22 0 10 63) 0 11 57) 1 1 0) 1 1 = 0 from rfl), (show y32 = V22 63 0 from e33.symm)⟩⟩), hT⟩ dX11_rules_50
      · skip
        replace hT := hT.trans (if_neg (by rw [e36]; decide))
        refine pm_getf (v := 63) hC 0 fl_X11_45 rfl rfl (by decide) rfl e36 dX11_rules_18 ?_
        refine pm_astore_n (lv' := [(1, (3, 63)), (0, (3, 0))]) hC (by decide) dX11_rules_21 (by decide) rfl ?_
        refine pm_aload_n hC 1 (by decide) dX11_rules_22 rfl ?_
        refine pm_aload_n hC 1 (by decide) dX11_rules_23 rfl ?_
        refine pm_getf (v := 63) hC 0 fl_X11_49 rfl rfl (by decide) rfl e31 dX11_rules_24 ?_
        refine pm_putf hC 0 fl_X11_45 rfl rfl rfl (by decide) rfl trivial dX11_rules_27 ?_
        refine pm_aload_n hC 1 (by decide) dX11_rules_30 rfl ?_
        refine pm_aload_n hC 0 (by decide) dX11_rules_31 rfl ?_
        refine pm_putf hC 0 fl_X11_49 rfl rfl rfl (by decide) rfl trivial dX11_rules_32 ?_
        refine pm_aload_n hC 1 (by decide) dX11_rules_35 rfl ?_
        have e38 : V22 0 0 = 1 := hV26.one 0 0 (by decide) (by decide) rfl
        refine pm_getf (v := 1) hC 0 fl_X11_10 rfl rfl (by decide) rfl e38 dX11_rules_36 ?_
        refine pm_iconst (v := 0) hC dX11_rules_39 ?_
        refine pm_putf hC 1 fl_X11_111 rfl rfl rfl (by decide) rfl trivial dX11_rules_40 ?_
        refine pm_aload_n hC 1 (by decide) dX11_rules_43 rfl ?_
        refine pm_getf (v := 63) hC 0 fl_X11_45 rfl rfl (by decide) rfl rfl dX11_rules_44 ?_
        refine pm_getf (v := y32) hC 63 fl_X11_139 rfl rfl (by decide) rfl e33 dX11_rules_47 ?_
        exact pm_iret hC hR pm_nar0 ⟨y32, rfl, ⟨by omega, by omega⟩, (((hV26.put2 0 10 (x := 63) (lo := 57) (hi := 63) rfl ⟨by omega, by decide⟩).put2 0 11 (x := 63) (lo := 57) (hi := 63) rfl ⟨by omega, by decide⟩).put 1 1 (x := 0) (lo := 0) (hi := 500) rfl ⟨by decide, by decide⟩), (((hF29.up 0 10 63 rfl).up 0 11 63 rfl).up 1 1 0 rfl), (fun q => absurd (((congrFun (hF27 0 (by decide)) 11).symm.trans e31).symm.trans q) (by decide)), (fun _ => ⟨y24, V22, hE28, Or.inl ⟨by omega, by omega, (show (pm_up (pm_up (pm_up V22 0 10 63) 0 11 63) 1 1 0) 1 1 = 0 from rfl), (show y32 = V22 63 0 from e33.symm)⟩⟩), hT⟩ dX11_rules_50
    · skip
      replace hT := hT.trans (if_neg c35)
      refine pm_iconst (v := (-1)) hC dX11_rules_15 ?_
      exact pm_iret hC hR pm_nar0 ⟨(-1), rfl, ⟨by omega, by omega⟩, hV26, hF29, (fun q => absurd (((congrFun (hF27 0 (by decide)) 11).symm.trans e31).symm.trans q) (by decide)), (fun _ => ⟨y24, V22, hE28, Or.inr ⟨by omega, rfl, rfl⟩⟩), hT⟩ dX11_rules_16
