theorem dX7_begin_0 : decode cX7_begin 0 = .ok (.aload_n 0, 1) := by decide +kernel
theorem dX7_begin_1 : decode cX7_begin 1 = .ok (.iconst 0, 1) := by decide +kernel
theorem dX7_begin_2 : decode cX7_begin 2 = .ok (.putfield 15, 3) := by decide +kernel
theorem dX7_begin_5 : decode cX7_begin 5 = .ok (.aload_n 0, 1) := by decide +kernel
theorem dX7_begin_6 : decode cX7_begin 6 = .ok (.iconst 0, 1) := by decide +kernel
theorem dX7_begin_7 : decode cX7_begin 7 = .ok (.putfield 32, 3) := by decide +kernel
theorem dX7_begin_10 : decode cX7_begin 10 = .ok (.aload_n 0, 1) := by decide +kernel
theorem dX7_begin_11 : decode cX7_begin 11 = .ok (.iconst 0, 1) := by decide +kernel
theorem dX7_begin_12 : decode cX7_begin 12 = .ok (.iconst 0, 1) := by decide +kernel
theorem dX7_begin_13 : decode cX7_begin 13 = .ok (.iload_n 1, 1) := by decide +kernel
theorem dX7_begin_14 : decode cX7_begin 14 = .ok (.iconst 0, 1) := by decide +kernel
theorem dX7_begin_15 : decode cX7_begin 15 = .ok (.invokevirtual 51, 3) := by decide +kernel
theorem dX7_begin_18 : decode cX7_begin 18 = .ok (.pop, 1) := by decide +kernel
theorem dX7_begin_19 : decode cX7_begin 19 = .ok (.return_, 1) := by decide +kernel
noncomputable def F_X8_add (a1 : Int) (V0 : pm_M) : Int × pm_M := pf_val ((0 : Int), V0) (fun (q : Int × pm_M) => match q with | (x1, V3) => ((if x1 < 0 then ((.inr (0, V3))) else (pf_let (V3 1 1) fun y14 => (if 500 ≤ y14 then (pf_let (x1 + (-8)) fun x19 => (.inl (x19, V3))) else (pf_let ((pm_iushrV a1 x1)) fun y21 => pf_let ((pm_iandV y21 255)) fun y23 => pf_let (x1 + (-8)) fun x25 => (.inl (x25, (pm_up (pm_up V3 2 (y14 : Int).toNat y23) 1 1 (y14 + 1)))))))))) (24, V0)
theorem F_X8_add_eq (a1 : Int) (V0 : pm_M) : F_X8_add a1 V0 = pf_val ((0 : Int), V0) (fun (q : Int × pm_M) => match q with | (x1, V3) => ((if x1 < 0 then ((.inr (0, V3))) else (pf_let (V3 1 1) fun y14 => (if 500 ≤ y14 then (pf_let (x1 + (-8)) fun x19 => (.inl (x19, V3))) else (pf_let ((pm_iushrV a1 x1)) fun y21 => pf_let ((pm_iandV y21 255)) fun y23 => pf_let (x1 + (-8)) fun x25 => (.inl (x25, (pm_up (pm_up V3 2 (y14 : Int).toNat y23) 1 1 (y14 + 1)))))))))) (24, V0) := rfl
noncomputable def F_X11_feed (a1 a2 a3 a4 a5 : Int) (V0 : pm_M) : Int × pm_M := pf_let (V0 1 1) fun y2 => (if (y2 + 20) ≤ 500 then (pf_call (F_X8_add a1 V0) fun _ V7 => pf_call (F_X8_add a2 V7) fun _ V15 => pf_call (F_X8_add a3 V15) fun _ V23 => pf_call (F_X8_add a4 V23) fun _ V31 => pf_call (F_X8_add a5 V31) fun _ V39 => pf_let (V39 1 1) fun y46 => (y46, V39)) else (((-1), V0)))
theorem F_X11_feed_eq (a1 a2 a3 a4 a5 : Int) (V0 : pm_M) : F_X11_feed a1 a2 a3 a4 a5 V0 = pf_let (V0 1 1) fun y2 => (if (y2 + 20) ≤ 500 then (pf_call (F_X8_add a1 V0) fun _ V7 => pf_call (F_X8_add a2 V7) fun _ V15 => pf_call (F_X8_add a3 V15) fun _ V23 => pf_call (F_X8_add a4 V23) fun _ V31 => pf_call (F_X8_add a5 V31) fun _ V39 => pf_let (V39 1 1) fun y46 => (y46, V39)) else (((-1), V0))) := rfl
noncomputable def F_X11_end (a1 : Int) (V0 : pm_M) : Int × pm_M := (if a1 < 0 then ((0, V0)) else (pf_let (V0 1 1) fun y3 => (if a1 ≤ y3 then ((1, (pm_up V0 1 1 a1))) else ((0, V0)))))
theorem F_X11_end_eq (a1 : Int) (V0 : pm_M) : F_X11_end a1 V0 = (if a1 < 0 then ((0, V0)) else (pf_let (V0 1 1) fun y3 => (if a1 ≤ y3 then ((1, (pm_up V0 1 1 a1))) else ((0, V0))))) := rfl
noncomputable def F_X11_fault (a1 : Int) (V0 : pm_M) : Int × pm_M := (if ¬ (a1 = 0) then ((if ¬ (a1 = 1) then (((-2147483648), V0)) else ((if V0 0 11 = 57 then (pf_call (F_X3_read 57 V0) fun y8 V6 => (y8, V6)) else (pf_call (F_X3_read 63 V0) fun y19 V17 => (y19, V17)))))) else ((if V0 0 9 = 45 then (pf_call (F_X6_read 45 V0) fun y32 V30 => (y32, V30)) else (pf_call (F_X6_read 51 V0) fun y43 V41 => (y43, V41)))))
theorem F_X11_fault_eq (a1 : Int) (V0 : pm_M) : F_X11_fault a1 V0 = (if ¬ (a1 = 0) then ((if ¬ (a1 = 1) then (((-2147483648), V0)) else ((if V0 0 11 = 57 then (pf_call (F_X3_read 57 V0) fun y8 V6 => (y8, V6)) else (pf_call (F_X3_read 63 V0) fun y19 V17 => (y19, V17)))))) else ((if V0 0 9 = 45 then (pf_call (F_X6_read 45 V0) fun y32 V30 => (y32, V30)) else (pf_call (F_X6_read 51 V0) fun y43 V41 => (y43, V41))))) := rfl
noncomputable def F_X7_begin (a1 : Int) (V0 : pm_M) : Int × pm_M := pf_let ((pm_up (pm_up V0 4 1 0) 4 6 0)) fun V1 => pf_call (F_X7_addPerson 0 0 a1 0 V1) fun y10 V8 => (0, V8)
theorem F_X7_begin_eq (a1 : Int) (V0 : pm_M) : F_X7_begin a1 V0 = pf_let ((pm_up (pm_up V0 4 1 0) 4 6 0)) fun V1 => pf_call (F_X7_addPerson 0 0 a1 0 V1) fun y10 V8 => (0, V8) := rfl
noncomputable def F_X11_scene (V0 : pm_M) : Int × pm_M := (if V0 0 9 = 45 then (pf_call (F_X6_read 45 V0) fun y6 V4 => pf_let (V4 45 0) fun y14 => (if y6 = (-1) then ((if V4 0 8 = 45 then (pf_let (V4 45 8) fun y21 => pf_call (F_X7_begin y21 (pm_up (pm_up (pm_up V4 0 8 45) 0 9 45) 1 1 0)) fun _ V25 => pf_val ((0 : Int), V0) (fun (q : Int × pm_M) => match q with | (x42, V44) => ((if 3 ≤ x42 then ((.inr (y14, V44))) else ((if x42 = 0 then (pf_let (x42 + 1) fun x69 => (.inl (x69, (pm_up V44 15 0 0)))) else ((if x42 = 1 then (pf_let (x42 + 1) fun x72 => (.inl (x72, (pm_up V44 25 0 0)))) else (pf_let (x42 + 1) fun x75 => (.inl (x75, (pm_up V44 35 0 0))))))))))) (0, V25)) else (pf_let (V4 45 8) fun y79 => pf_call (F_X7_begin y79 (pm_up (pm_up (pm_up V4 0 8 45) 0 9 51) 1 1 0)) fun _ V83 => pf_val ((0 : Int), V0) (fun (q : Int × pm_M) => match q with | (x100, V102) => ((if 3 ≤ x100 then ((.inr (y14, V102))) else ((if x100 = 0 then (pf_let (x100 + 1) fun x127 => (.inl (x127, (pm_up V102 15 0 0)))) else ((if x100 = 1 then (pf_let (x100 + 1) fun x130 => (.inl (x130, (pm_up V102 25 0 0)))) else (pf_let (x100 + 1) fun x133 => (.inl (x133, (pm_up V102 35 0 0))))))))))) (0, V83)))) else (((-1), V4)))) else (pf_call (F_X6_read 51 V0) fun y138 V136 => pf_let (V136 51 0) fun y146 => (if y138 = (-1) then ((if V136 0 8 = 45 then (pf_let (V136 51 8) fun y153 => pf_call (F_X7_begin y153 (pm_up (pm_up (pm_up V136 0 8 51) 0 9 45) 1 1 0)) fun _ V157 => pf_val ((0 : Int), V0) (fun (q : Int × pm_M) => match q with | (x174, V176) => ((if 3 ≤ x174 then ((.inr (y146, V176))) else ((if x174 = 0 then (pf_let (x174 + 1) fun x201 => (.inl (x201, (pm_up V176 15 0 0)))) else ((if x174 = 1 then (pf_let (x174 + 1) fun x204 => (.inl (x204, (pm_up V176 25 0 0)))) else (pf_let (x174 + 1) fun x207 => (.inl (x207, (pm_up V176 35 0 0))))))))))) (0, V157)) else (pf_let (V136 51 8) fun y211 => pf_call (F_X7_begin y211 (pm_up (pm_up (pm_up V136 0 8 51) 0 9 51) 1 1 0)) fun _ V215 => pf_val ((0 : Int), V0) (fun (q : Int × pm_M) => match q with | (x232, V234) => ((if 3 ≤ x232 then ((.inr (y146, V234))) else ((if x232 = 0 then (pf_let (x232 + 1) fun x259 => (.inl (x259, (pm_up V234 15 0 0)))) else ((if x232 = 1 then (pf_let (x232 + 1) fun x262 => (.inl (x262, (pm_up V234 25 0 0)))) else (pf_let (x232 + 1) fun x265 => (.inl (x265, (pm_up V234 35 0 0))))))))))) (0, V215)))) else (((-1), V136)))))
theorem F_X11_scene_eq (V0 : pm_M) : F_X11_scene V0 = (if V0 0 9 = 45 then (pf_call (F_X6_read 45 V0) fun y6 V4 => pf_let (V4 45 0) fun y14 => (if y6 = (-1) then ((if V4 0 8 = 45 then (pf_let (V4 45 8) fun y21 => pf_call (F_X7_begin y21 (pm_up (pm_up (pm_up V4 0 8 45) 0 9 45) 1 1 0)) fun _ V25 => pf_val ((0 : Int), V0) (fun (q : Int × pm_M) => match q with | (x42, V44) => ((if 3 ≤ x42 then ((.inr (y14, V44))) else ((if x42 = 0 then (pf_let (x42 + 1) fun x69 => (.inl (x69, (pm_up V44 15 0 0)))) else ((if x42 = 1 then (pf_let (x42 + 1) fun x72 => (.inl (x72, (pm_up V44 25 0 0)))) else (pf_let (x42 + 1) fun x75 => (.inl (x75, (pm_up V44 35 0 0))))))))))) (0, V25)) else (pf_let (V4 45 8) fun y79 => pf_call (F_X7_begin y79 (pm_up (pm_up (pm_up V4 0 8 45) 0 9 51) 1 1 0)) fun _ V83 => pf_val ((0 : Int), V0) (fun (q : Int × pm_M) => match q with | (x100, V102) => ((if 3 ≤ x100 then ((.inr (y14, V102))) else ((if x100 = 0 then (pf_let (x100 + 1) fun x127 => (.inl (x127, (pm_up V102 15 0 0)))) else ((if x100 = 1 then (pf_let (x100 + 1) fun x130 => (.inl (x130, (pm_up V102 25 0 0)))) else (pf_let (x100 + 1) fun x133 => (.inl (x133, (pm_up V102 35 0 0))))))))))) (0, V83)))) else (((-1), V4)))) else (pf_call (F_X6_read 51 V0) fun y138 V136 => pf_let (V136 51 0) fun y146 => (if y138 = (-1) then ((if V136 0 8 = 45 then (pf_let (V136 51 8) fun y153 => pf_call (F_X7_begin y153 (pm_up (pm_up (pm_up V136 0 8 51) 0 9 45) 1 1 0)) fun _ V157 => pf_val ((0 : Int), V0) (fun (q : Int × pm_M) => match q with | (x174, V176) => ((if 3 ≤ x174 then ((.inr (y146, V176))) else ((if x174 = 0 then (pf_let (x174 + 1) fun x201 => (.inl (x201, (pm_up V176 15 0 0)))) else ((if x174 = 1 then (pf_let (x174 + 1) fun x204 => (.inl (x204, (pm_up V176 25 0 0)))) else (pf_let (x174 + 1) fun x207 => (.inl (x207, (pm_up V176 35 0 0))))))))))) (0, V157)) else (pf_let (V136 51 8) fun y211 => pf_call (F_X7_begin y211 (pm_up (pm_up (pm_up V136 0 8 51) 0 9 51) 1 1 0)) fun _ V215 => pf_val ((0 : Int), V0) (fun (q : Int × pm_M) => match q with | (x232, V234) => ((if 3 ≤ x232 then ((.inr (y146, V234))) else ((if x232 = 0 then (pf_let (x232 + 1) fun x259 => (.inl (x259, (pm_up V234 15 0 0)))) else ((if x232 = 1 then (pf_let (x232 + 1) fun x262 => (.inl (x262, (pm_up V234 25 0 0)))) else (pf_let (x232 + 1) fun x265 => (.inl (x265, (pm_up V234 35 0 0))))))))))) (0, V215)))) else (((-1), V136))))) := rfl
noncomputable def F_X11_rules (V0 : pm_M) : Int × pm_M := (if V0 0 11 = 57 then (pf_call (F_X3_read 57 V0) fun y6 V4 => pf_let (V4 57 0) fun y14 => (if y6 = (-1) then ((if V4 0 10 = 57 then ((y14, (pm_up (pm_up (pm_up V4 0 10 57) 0 11 57) 1 1 0))) else ((y14, (pm_up (pm_up (pm_up V4 0 10 57) 0 11 63) 1 1 0))))) else (((-1), V4)))) else (pf_call (F_X3_read 63 V0) fun y24 V22 => pf_let (V22 63 0) fun y32 => (if y24 = (-1) then ((if V22 0 10 = 57 then ((y32, (pm_up (pm_up (pm_up V22 0 10 63) 0 11 57) 1 1 0))) else ((y32, (pm_up (pm_up (pm_up V22 0 10 63) 0 11 63) 1 1 0))))) else (((-1), V22)))))
theorem F_X11_rules_eq (V0 : pm_M) : F_X11_rules V0 = (if V0 0 11 = 57 then (pf_call (F_X3_read 57 V0) fun y6 V4 => pf_let (V4 57 0) fun y14 => (if y6 = (-1) then ((if V4 0 10 = 57 then ((y14, (pm_up (pm_up (pm_up V4 0 10 57) 0 11 57) 1 1 0))) else ((y14, (pm_up (pm_up (pm_up V4 0 10 57) 0 11 63) 1 1 0))))) else (((-1), V4)))) else (pf_call (F_X3_read 63 V0) fun y24 V22 => pf_let (V22 63 0) fun y32 => (if y24 = (-1) then ((if V22 0 10 = 57 then ((y32, (pm_up (pm_up (pm_up V22 0 10 63) 0 11 57) 1 1 0))) else ((y32, (pm_up (pm_up (pm_up V22 0 10 63) 0 11 63) 1 1 0))))) else (((-1), V22))))) := rfl
set_option maxHeartbeats 4000000 in
set_option maxRecDepth 100000 in
theorem fD_X8_add_1 (a1 : Int) (h0 : (-2147483648) ≤ a1 ∧ a1 ≤ 2147483647) : pm_K 1 yX8_add cX8_add 3 none (fun av V => av = [(3, 1), (0, a1)] ∧ pm_ok 0 90 V) (fun _ V r V' => r = none ∧ pm_ok 0 90 V' ∧ pm_ff [2] [(1, 1)] V V' ∧ F_X8_add a1 V = (0, V')) := by
  refine pm_MT.of (by decide) ⟨Nat.le_refl _, by decide⟩ (fun av V h => by rw [h.1]; exact (by decide : pm_words [(3, 0), (0, 0)] ≤ 3)) ?_
  rintro X av V0 hC - hR ⟨rfl, hV0⟩
  change pm_J X 0 [(0, (3, 1)), (1, (0, a1))] [] 118 V0
  have hT := F_X8_add_eq a1 V0
  refine pm_bipush (v := 24) hC dX8_add_0 (by decide) ?_
  refine pm_istore_n (lv' := [(2, (0, 24)), (0, (3, 1)), (1, (0, a1))]) hC dX8_add_2 (by decide) rfl ?_
  obtain ⟨B6, hB7, hT⟩ := pf_loop hT
  have L9 : ∀ (N11 : Nat) (x1 : Int) (V3 : pm_M), ((-99) ≤ x1 ∧ x1 ≤ 24) → pm_ok 0 90 V3 → pm_ff [2] [(1, 1)] V0 V3 → F_X8_add a1 V0 = pf_val ((0 : Int), V0) B6 (x1, V3) → (Int.toNat (x1 - (-99))) = N11 → pm_J X 3 [(0, (3, 1)), (1, (0, a1)), (2, (0, x1))] [] 118 V3 := by
    intro N11
    induction N11 using Nat.strongRecOn with
    | _ N11 ih12 =>
    intro x1 V3 b2 hV4 hF5 hT hm10
    have hb8 := congrFun hB7 (x1, V3)
    refine pm_iload_n hC 2 dX8_add_3 rfl ?_
    refine pm_if_lt (tgt := 51) hC ⟨by omega, by omega⟩ dX8_add_4 (by decide) (fun c13 => ?_) (fun c13 => ?_)
    · skip
      replace hb8 := hb8.trans (if_pos c13)
      have hT := hT.trans (pf_val_inr hb8)
      exact pm_vret hC hR ⟨rfl, hV4, hF5, hT⟩ dX8_add_51
    · skip
      replace hb8 := hb8.trans (if_neg (Int.not_lt.mpr c13))
      refine pm_aload_n hC 0 (by decide) dX8_add_7 rfl ?_
      obtain ⟨y14, e15⟩ : ∃ y, V3 1 1 = y := ⟨_, rfl⟩
      have b16 := hV4.get 1 1 (lo := 0) (hi := 500) (by decide) (by decide) rfl
      rw [e15] at b16
      replace hb8 := hb8.trans (pf_let_eq e15)
      refine pm_getf (v := y14) hC 1 fl_X8_15 rfl rfl (by decide) rfl e15 dX8_add_8 ?_
      refine pm_aload_n hC 0 (by decide) dX8_add_11 rfl ?_
      have e17 : V3 1 0 = 2 := hV4.one 1 0 (by decide) (by decide) rfl
      refine pm_getf (v := 2) hC 1 fl_X8_9 rfl rfl (by decide) rfl e17 dX8_add_12 ?_
      refine pm_alen hC 2 rfl (by decide) rfl (by decide) dX8_add_15 ?_
      change pm_J X 16 [(0, (3, 1)), (1, (0, a1)), (2, (0, x1))] [(0, 500), (0, y14)] 118 V3
      refine pm_icmp_ge (tgt := 45) hC ⟨by omega, by omega⟩ ⟨by decide, by decide⟩ dX8_add_16 (by decide) (fun c18 => ?_) (fun c18 => ?_)
      · skip
        replace hb8 := hb8.trans (if_pos c18)
        obtain ⟨x19, ei20⟩ : ∃ y : Int, x1 + (-8) = y := ⟨_, rfl⟩
        replace hb8 := hb8.trans (pf_let_eq ei20)
        refine pm_iinc (y := x19) (lv' := [(2, (0, x19)), (0, (3, 1)), (1, (0, a1))]) hC 2 dX8_add_45 (by decide) rfl ei20 rfl ?_
        refine pm_goto (tgt := 3) hC dX8_add_48 (by decide) ?_
        refine pm_lvsub [1, 2, 0] (lv' := [(0, (3, 1)), (1, (0, a1)), (2, (0, x19))]) rfl ?_
        exact ih12 _ (by omega) x19 V3 ⟨by omega, by omega⟩ hV4 hF5 (hT.trans (pf_val_inl hb8)) rfl
      · skip
        replace hb8 := hb8.trans (if_neg (Int.not_le.mpr c18))
        refine pm_aload_n hC 0 (by decide) dX8_add_19 rfl ?_
        refine pm_getf (v := 2) hC 1 fl_X8_9 rfl rfl (by decide) rfl e17 dX8_add_20 ?_
        refine pm_aload_n hC 0 (by decide) dX8_add_23 rfl ?_
        refine pm_getf (v := y14) hC 1 fl_X8_15 rfl rfl (by decide) rfl e15 dX8_add_24 ?_
        refine pm_iload_n hC 1 dX8_add_27 rfl ?_
        refine pm_iload_n hC 2 dX8_add_28 rfl ?_
        refine pm_iushr hC dX8_add_29 ?_
        have b22 := pm_iushrr a1 x1
        obtain ⟨y21, hey21⟩ : ∃ z, (pm_iushrV a1 x1) = z := ⟨_, rfl⟩
        rw [hey21] at b22 ⊢
        replace hb8 := hb8.trans (pf_let_eq hey21)
        refine pm_sipush (v := 255) hC dX8_add_30 (by decide) ?_
        refine pm_iand hC dX8_add_33 ?_
        have b24 := pm_iandb (x := y21) (y := 255) (by decide)
        obtain ⟨y23, hey23⟩ : ∃ z, (pm_iandV y21 255) = z := ⟨_, rfl⟩
        rw [hey23] at b24 ⊢
        replace hb8 := hb8.trans (pf_let_eq hey23)
        refine pm_iastore (len := 500) hC 2 rfl rfl (by decide) ⟨by omega, by omega⟩ (by decide) dX8_add_34 ?_
        refine pm_aload_n hC 0 (by decide) dX8_add_35 rfl ?_
        refine pm_dup hC rfl dX8_add_36 ?_
        refine pm_getf (v := y14) hC 1 fl_X8_15 rfl rfl (by decide) rfl e15 dX8_add_37 ?_
        refine pm_iconst (v := 1) hC dX8_add_40 ?_
        refine pm_iadd hC dX8_add_41 ?_
        refine pm_putf hC 1 fl_X8_15 rfl rfl rfl (by decide) rfl trivial dX8_add_42 ?_
        obtain ⟨x25, ei26⟩ : ∃ y : Int, x1 + (-8) = y := ⟨_, rfl⟩
        replace hb8 := hb8.trans (pf_let_eq ei26)
        refine pm_iinc (y := x25) (lv' := [(2, (0, x25)), (0, (3, 1)), (1, (0, a1))]) hC 2 dX8_add_45 (by decide) rfl ei26 rfl ?_
        refine pm_goto (tgt := 3) hC dX8_add_48 (by decide) ?_
        refine pm_lvsub [1, 2, 0] (lv' := [(0, (3, 1)), (1, (0, a1)), (2, (0, x25))]) rfl ?_
        exact ih12 _ (by omega) x25 (pm_up (pm_up V3 2 (y14 : Int).toNat y23) 1 1 (y14 + 1)) ⟨by omega, by omega⟩ ((hV4.put 2 (y14 : Int).toNat (x := y23) (lo := 0) (hi := 255) rfl ⟨by omega, by omega⟩).put 1 1 (x := (y14 + 1)) (lo := 0) (hi := 500) rfl ⟨by omega, by omega⟩) ((hF5.upa 2 (y14 : Int).toNat y23 rfl).upf 1 1 (y14 + 1) rfl) (hT.trans (pf_val_inl hb8)) rfl
  refine pm_lvsub [1, 2, 0] (lv' := [(0, (3, 1)), (1, (0, a1)), (2, (0, 24))]) rfl ?_
  exact L9 _ 24 V0 ⟨by decide, by decide⟩ hV0 (pm_ff.rf (cs := [2]) (fs := [(1, 1)]) (V := V0)) hT rfl
set_option maxHeartbeats 4000000 in
set_option maxRecDepth 100000 in
theorem fD_X11_feed_0 (a1 a2 a3 a4 a5 : Int) (h0 : (-2147483648) ≤ a1 ∧ a1 ≤ 2147483647) (h1 : (-2147483648) ≤ a2 ∧ a2 ≤ 2147483647) (h2 : (-2147483648) ≤ a3 ∧ a3 ≤ 2147483647) (h3 : (-2147483648) ≤ a4 ∧ a4 ≤ 2147483647) (h4 : (-2147483648) ≤ a5 ∧ a5 ≤ 2147483647) : pm_K 2 yX11_feed cX11_feed 6 (some .int) (fun av V => av = [(3, 0), (0, a1), (0, a2), (0, a3), (0, a4), (0, a5)] ∧ pm_ok 0 90 V) (fun _ V r V' => ∃ y, r = some (0, y) ∧ ((-1) ≤ y ∧ y ≤ 500) ∧ pm_ok 0 90 V' ∧ pm_ff [2] [(1, 1)] V V' ∧ F_X11_feed a1 a2 a3 a4 a5 V = (y, V')) := by
  refine pm_MT.of (by decide) ⟨Nat.le_refl _, by decide⟩ (fun av V h => by rw [h.1]; exact (by decide : pm_words [(3, 0), (0, 0), (0, 0), (0, 0), (0, 0), (0, 0)] ≤ 6)) ?_
  rintro X av V0 hC - hR ⟨rfl, hV0⟩
  change pm_J X 0 [(0, (3, 0)), (1, (0, a1)), (2, (0, a2)), (3, (0, a3)), (4, (0, a4)), (5, (0, a5))] [] 118 V0
  have hT := F_X11_feed_eq a1 a2 a3 a4 a5 V0
  refine pm_aload_n hC 0 (by decide) dX11_feed_0 rfl ?_
  have e1 : V0 0 0 = 1 := hV0.one 0 0 (by decide) (by decide) rfl
  refine pm_getf (v := 1) hC 0 fl_X11_10 rfl rfl (by decide) rfl e1 dX11_feed_1 ?_
  obtain ⟨y2, e3⟩ : ∃ y, V0 1 1 = y := ⟨_, rfl⟩
  have b4 := hV0.get 1 1 (lo := 0) (hi := 500) (by decide) (by decide) rfl
  rw [e3] at b4
  replace hT := hT.trans (pf_let_eq e3)
  refine pm_getf (v := y2) hC 1 fl_X11_111 rfl rfl (by decide) rfl e3 dX11_feed_4 ?_
  refine pm_bipush (v := 20) hC dX11_feed_7 (by decide) ?_
  refine pm_iadd hC dX11_feed_9 ?_
  refine pm_sipush (v := 500) hC dX11_feed_10 (by decide) ?_
  refine pm_icmp_le (tgt := 18) hC ⟨by omega, by omega⟩ ⟨by decide, by decide⟩ dX11_feed_13 (by decide) (fun c5 => ?_) (fun c5 => ?_)
  · skip
    replace hT := hT.trans (if_pos c5)
    refine pm_aload_n hC 0 (by decide) dX11_feed_18 rfl ?_
    refine pm_getf (v := 1) hC 0 fl_X11_10 rfl rfl (by decide) rfl e1 dX11_feed_19 ?_
    refine pm_iload_n hC 1 dX11_feed_22 rfl ?_
    refine pm_callV (ci := 8) (as := [(0, a1)]) (st := []) hC 1 (fD_X8_add_1 a1 ⟨by omega, by omega⟩) lm_X11_114 li_X8_add (by decide) (by decide) rfl rfl rfl (by decide) rfl rfl (Nat.le_of_ble_eq_true rfl) ⟨Nat.le_refl _, Or.inl rfl⟩ dX11_feed_23 ⟨rfl, hV0⟩ (fun r6 V7 hp8 => ?_)
    obtain ⟨rfl, hV9, hF10, hE11⟩ := hp8
    replace hT := hT.trans (pf_call_eq hE11)
    change pm_J X 26 [(0, (3, 0)), (1, (0, a1)), (2, (0, a2)), (3, (0, a3)), (4, (0, a4)), (5, (0, a5))] [] 118 V7
    have hF12 := pm_ff.tr (pm_ff.rf (cs := [2]) (fs := [(1, 1)]) (V := V0)) hF10 (by decide) (by decide)
    have e13 : V7 0 0 = 1 := by rw [hF10 0 0 (by decide) (by decide)]; exact e1
    refine pm_aload_n hC 0 (by decide) dX11_feed_26 rfl ?_
    refine pm_getf (v := 1) hC 0 fl_X11_10 rfl rfl (by decide) rfl e13 dX11_feed_27 ?_
    refine pm_iload_n hC 2 dX11_feed_30 rfl ?_
    refine pm_callV (ci := 8) (as := [(0, a2)]) (st := []) hC 1 (fD_X8_add_1 a2 ⟨by omega, by omega⟩) lm_X11_114 li_X8_add (by decide) (by decide) rfl rfl rfl (by decide) rfl rfl (Nat.le_of_ble_eq_true rfl) ⟨Nat.le_refl _, Or.inl rfl⟩ dX11_feed_31 ⟨rfl, hV9⟩ (fun r14 V15 hp16 => ?_)
    obtain ⟨rfl, hV17, hF18, hE19⟩ := hp16
    replace hT := hT.trans (pf_call_eq hE19)
    change pm_J X 34 [(0, (3, 0)), (1, (0, a1)), (2, (0, a2)), (3, (0, a3)), (4, (0, a4)), (5, (0, a5))] [] 118 V15
    have hF20 := pm_ff.tr hF12 hF18 (by decide) (by decide)
    have e21 : V15 0 0 = 1 := by rw [hF18 0 0 (by decide) (by decide)]; exact e13
    refine pm_aload_n hC 0 (by decide) dX11_feed_34 rfl ?_
    refine pm_getf (v := 1) hC 0 fl_X11_10 rfl rfl (by decide) rfl e21 dX11_feed_35 ?_
    refine pm_iload_n hC 3 dX11_feed_38 rfl ?_
    refine pm_callV (ci := 8) (as := [(0, a3)]) (st := []) hC 1 (fD_X8_add_1 a3 ⟨by omega, by omega⟩) lm_X11_114 li_X8_add (by decide) (by decide) rfl rfl rfl (by decide) rfl rfl (Nat.le_of_ble_eq_true rfl) ⟨Nat.le_refl _, Or.inl rfl⟩ dX11_feed_39 ⟨rfl, hV17⟩ (fun r22 V23 hp24 => ?_)
    obtain ⟨rfl, hV25, hF26, hE27⟩ := hp24
    replace hT := hT.trans (pf_call_eq hE27)
    change pm_J X 42 [(0, (3, 0)), (1, (0, a1)), (2, (0, a2)), (3, (0, a3)), (4, (0, a4)), (5, (0, a5))] [] 118 V23
    have hF28 := pm_ff.tr hF20 hF26 (by decide) (by decide)
    have e29 : V23 0 0 = 1 := by rw [hF26 0 0 (by decide) (by decide)]; exact e21
    refine pm_aload_n hC 0 (by decide) dX11_feed_42 rfl ?_
    refine pm_getf (v := 1) hC 0 fl_X11_10 rfl rfl (by decide) rfl e29 dX11_feed_43 ?_
    refine pm_iload hC 4 dX11_feed_46 rfl ?_
    refine pm_callV (ci := 8) (as := [(0, a4)]) (st := []) hC 1 (fD_X8_add_1 a4 ⟨by omega, by omega⟩) lm_X11_114 li_X8_add (by decide) (by decide) rfl rfl rfl (by decide) rfl rfl (Nat.le_of_ble_eq_true rfl) ⟨Nat.le_refl _, Or.inl rfl⟩ dX11_feed_48 ⟨rfl, hV25⟩ (fun r30 V31 hp32 => ?_)
    obtain ⟨rfl, hV33, hF34, hE35⟩ := hp32
    replace hT := hT.trans (pf_call_eq hE35)
    change pm_J X 51 [(0, (3, 0)), (1, (0, a1)), (2, (0, a2)), (3, (0, a3)), (4, (0, a4)), (5, (0, a5))] [] 118 V31
    have hF36 := pm_ff.tr hF28 hF34 (by decide) (by decide)
    have e37 : V31 0 0 = 1 := by rw [hF34 0 0 (by decide) (by decide)]; exact e29
    refine pm_aload_n hC 0 (by decide) dX11_feed_51 rfl ?_
    refine pm_getf (v := 1) hC 0 fl_X11_10 rfl rfl (by decide) rfl e37 dX11_feed_52 ?_
    refine pm_iload hC 5 dX11_feed_55 rfl ?_
    refine pm_callV (ci := 8) (as := [(0, a5)]) (st := []) hC 1 (fD_X8_add_1 a5 ⟨by omega, by omega⟩) lm_X11_114 li_X8_add (by decide) (by decide) rfl rfl rfl (by decide) rfl rfl (Nat.le_of_ble_eq_true rfl) ⟨Nat.le_refl _, Or.inl rfl⟩ dX11_feed_57 ⟨rfl, hV33⟩ (fun r38 V39 hp40 => ?_)
    obtain ⟨rfl, hV41, hF42, hE43⟩ := hp40
    replace hT := hT.trans (pf_call_eq hE43)
    change pm_J X 60 [(0, (3, 0)), (1, (0, a1)), (2, (0, a2)), (3, (0, a3)), (4, (0, a4)), (5, (0, a5))] [] 118 V39
    have hF44 := pm_ff.tr hF36 hF42 (by decide) (by decide)
    have e45 : V39 0 0 = 1 := by rw [hF42 0 0 (by decide) (by decide)]; exact e37
    refine pm_aload_n hC 0 (by decide) dX11_feed_60 rfl ?_
    refine pm_getf (v := 1) hC 0 fl_X11_10 rfl rfl (by decide) rfl e45 dX11_feed_61 ?_
    obtain ⟨y46, e47⟩ : ∃ y, V39 1 1 = y := ⟨_, rfl⟩
    have b48 := hV41.get 1 1 (lo := 0) (hi := 500) (by decide) (by decide) rfl
    rw [e47] at b48
    replace hT := hT.trans (pf_let_eq e47)
    refine pm_getf (v := y46) hC 1 fl_X11_111 rfl rfl (by decide) rfl e47 dX11_feed_64 ?_
    exact pm_iret hC hR pm_nar0 ⟨y46, rfl, ⟨by omega, by omega⟩, hV41, hF44, hT⟩ dX11_feed_67
  · skip
    replace hT := hT.trans (if_neg (Int.not_le.mpr c5))
    refine pm_iconst (v := (-1)) hC dX11_feed_16 ?_
    exact pm_iret hC hR pm_nar0 ⟨(-1), rfl, ⟨by omega, by omega⟩, hV0, (pm_ff.rf (cs := [2]) (fs := [(1, 1)]) (V := V0)), hT⟩ dX11_feed_17
set_option maxHeartbeats 4000000 in
set_option maxRecDepth 100000 in
theorem fD_X11_end_0 (a1 : Int) (h0 : (-2147483648) ≤ a1 ∧ a1 ≤ 2147483647) : pm_K 1 yX11_end cX11_end 2 (some .boolean) (fun av V => av = [(3, 0), (0, a1)] ∧ pm_ok 0 90 V) (fun _ V r V' => ∃ y, r = some (0, y) ∧ (0 ≤ y ∧ y ≤ 1) ∧ pm_ok 0 90 V' ∧ pm_ff [] [(1, 1)] V V' ∧ F_X11_end a1 V = (y, V')) := by
  refine pm_MT.of (by decide) ⟨Nat.le_refl _, by decide⟩ (fun av V h => by rw [h.1]; exact (by decide : pm_words [(3, 0), (0, 0)] ≤ 2)) ?_
  rintro X av V0 hC - hR ⟨rfl, hV0⟩
  change pm_J X 0 [(0, (3, 0)), (1, (0, a1))] [] 118 V0
  have hT := F_X11_end_eq a1 V0
  refine pm_iload_n hC 1 dX11_end_0 rfl ?_
  refine pm_if_lt (tgt := 15) hC ⟨by omega, by omega⟩ dX11_end_1 (by decide) (fun c1 => ?_) (fun c1 => ?_)
  · skip
    replace hT := hT.trans (if_pos c1)
    refine pm_iconst (v := 0) hC dX11_end_15 ?_
    exact pm_iret hC hR (pm_narZ (by omega)) ⟨0, rfl, ⟨by omega, by omega⟩, hV0, (pm_ff.rf (cs := []) (fs := [(1, 1)]) (V := V0)), hT⟩ dX11_end_16
  · skip
    replace hT := hT.trans (if_neg (Int.not_lt.mpr c1))
    refine pm_iload_n hC 1 dX11_end_4 rfl ?_
    refine pm_aload_n hC 0 (by decide) dX11_end_5 rfl ?_
    have e2 : V0 0 0 = 1 := hV0.one 0 0 (by decide) (by decide) rfl
    refine pm_getf (v := 1) hC 0 fl_X11_10 rfl rfl (by decide) rfl e2 dX11_end_6 ?_
    obtain ⟨y3, e4⟩ : ∃ y, V0 1 1 = y := ⟨_, rfl⟩
    have b5 := hV0.get 1 1 (lo := 0) (hi := 500) (by decide) (by decide) rfl
    rw [e4] at b5
    replace hT := hT.trans (pf_let_eq e4)
    refine pm_getf (v := y3) hC 1 fl_X11_111 rfl rfl (by decide) rfl e4 dX11_end_9 ?_
    refine pm_icmp_le (tgt := 17) hC ⟨by omega, by omega⟩ ⟨by omega, by omega⟩ dX11_end_12 (by decide) (fun c6 => ?_) (fun c6 => ?_)
    · skip
      replace hT := hT.trans (if_pos c6)
      refine pm_aload_n hC 0 (by decide) dX11_end_17 rfl ?_
      refine pm_getf (v := 1) hC 0 fl_X11_10 rfl rfl (by decide) rfl e2 dX11_end_18 ?_
      refine pm_iload_n hC 1 dX11_end_21 rfl ?_
      refine pm_putf hC 1 fl_X11_111 rfl rfl rfl (by decide) rfl trivial dX11_end_22 ?_
      refine pm_iconst (v := 1) hC dX11_end_25 ?_
      exact pm_iret hC hR (pm_narZ (by omega)) ⟨1, rfl, ⟨by omega, by omega⟩, (hV0.put 1 1 (x := a1) (lo := 0) (hi := 500) rfl ⟨by omega, by omega⟩), ((pm_ff.rf (cs := []) (fs := [(1, 1)]) (V := V0)).upf 1 1 a1 rfl), hT⟩ dX11_end_26
    · skip
      replace hT := hT.trans (if_neg (Int.not_le.mpr c6))
      refine pm_iconst (v := 0) hC dX11_end_15 ?_
      exact pm_iret hC hR (pm_narZ (by omega)) ⟨0, rfl, ⟨by omega, by omega⟩, hV0, (pm_ff.rf (cs := []) (fs := [(1, 1)]) (V := V0)), hT⟩ dX11_end_16
set_option maxHeartbeats 4000000 in
set_option maxRecDepth 100000 in
theorem fD_X11_fault_0 (a1 : Int) (h0 : (-2147483648) ≤ a1 ∧ a1 ≤ 2147483647) : pm_K 32 yX11_fault cX11_fault 2 (some .int) (fun av V => av = [(3, 0), (0, a1)] ∧ pm_ok 0 90 V) (fun _ V r V' => ∃ y, r = some (0, y) ∧ ((-2147483648) ≤ y ∧ y ≤ 500) ∧ pm_ok 0 90 V' ∧ pm_ff [3, 45, 46, 47, 48, 49, 50, 51, 52, 53, 54, 55, 56, 57, 58, 59, 60, 61, 63, 64, 65, 66, 67, 69, 70, 71, 72] [] V V' ∧ (a1 = 0 → V 0 9 = 45 → pm_ff [3, 45, 46, 47, 48, 49, 50, 69, 70, 71] [] V V') ∧ (a1 = 0 → V 0 9 = 51 → pm_ff [3, 51, 52, 53, 54, 55, 56, 69, 70, 71] [] V V') ∧ (a1 = 1 → V 0 11 = 57 → pm_ff [3, 57, 58, 59, 60, 61, 72] [] V V') ∧ (a1 = 1 → V 0 11 = 63 → pm_ff [3, 63, 64, 65, 66, 67, 72] [] V V') ∧ (a1 ≠ 0 → a1 ≠ 1 → V' = V) ∧ F_X11_fault a1 V = (y, V')) := by
  refine pm_MT.of (by decide) ⟨Nat.le_refl _, by decide⟩ (fun av V h => by rw [h.1]; exact (by decide : pm_words [(3, 0), (0, 0)] ≤ 2)) ?_
  rintro X av V0 hC - hR ⟨rfl, hV0⟩
  change pm_J X 0 [(0, (3, 0)), (1, (0, a1))] [] 118 V0
  have hT := F_X11_fault_eq a1 V0
  refine pm_iload_n hC 1 dX11_fault_0 rfl ?_
  refine pm_if_ne (tgt := 16) hC ⟨by omega, by omega⟩ dX11_fault_1 (by decide) (fun c1 => ?_) (fun c1 => ?_)
  · skip
    replace hT := hT.trans (if_pos c1)
    refine pm_iload_n hC 1 dX11_fault_16 rfl ?_
    refine pm_iconst (v := 1) hC dX11_fault_17 ?_
    refine pm_icmp_ne (tgt := 33) hC ⟨by omega, by omega⟩ ⟨by decide, by decide⟩ dX11_fault_18 (by decide) (fun c2 => ?_) (fun c2 => ?_)
    · skip
      replace hT := hT.trans (if_pos c2)
      refine pm_ldc (v := (-2147483648)) hC 3153 dX11_fault_33 (by decide +kernel) ?_
      exact pm_iret hC hR pm_nar0 ⟨(-2147483648), rfl, ⟨by omega, by omega⟩, hV0, (pm_ff.rf (cs := [3, 45, 46, 47, 48, 49, 50, 51, 52, 53, 54, 55, 56, 57, 58, 59, 60, 61, 63, 64, 65, 66, 67, 69, 70, 71, 72]) (fs := []) (V := V0)), (fun q => by exfalso; omega), (fun q => by exfalso; omega), (fun q => by exfalso; omega), (fun q => by exfalso; omega), (fun _ _ => rfl), hT⟩ dX11_fault_35
    · skip
      replace hT := hT.trans (if_neg (fun q => q c2))
      refine pm_aload_n hC 0 (by decide) dX11_fault_21 rfl ?_
      have e3 : V0 0 2 = 72 := hV0.one 0 2 (by decide) (by decide) rfl
      refine pm_getf (v := 72) hC 0 fl_X11_66 rfl rfl (by decide) rfl e3 dX11_fault_22 ?_
      refine pm_aload_n hC 0 (by decide) dX11_fault_25 rfl ?_
      rcases hV0.get2 0 11 (lo := 57) (hi := 63) (by decide) (by decide) rfl with e4 | e4
      · skip
        replace hT := hT.trans (if_pos e4)
        refine pm_getf (v := 57) hC 0 fl_X11_49 rfl rfl (by decide) rfl e4 dX11_fault_26 ?_
        refine pm_callV (ci := 3) (as := [(3, 57)]) (st := []) hC 72 fC_X3_read_57 lm_X11_122 li_X3_read (by decide) (by decide) rfl rfl rfl (by decide) rfl rfl (Nat.le_of_ble_eq_true rfl) ⟨Nat.le_refl _, Or.inl rfl⟩ dX11_fault_29 ⟨rfl, hV0⟩ (fun r5 V6 hp7 => ?_)
        obtain ⟨y8, rfl, b9, hV10, hF11, hE12⟩ := hp7
        replace hF11 := pm_fr.ff hF11
        replace hT := hT.trans (pf_call_eq hE12)
        change pm_J X 32 [(0, (3, 0)), (1, (0, a1))] [(0, y8)] 118 V6
        have hF13 := pm_ff.tr (pm_ff.rf (cs := [3, 45, 46, 47, 48, 49, 50, 51, 52, 53, 54, 55, 56, 57, 58, 59, 60, 61, 63, 64, 65, 66, 67, 69, 70, 71, 72]) (fs := []) (V := V0)) hF11 (by decide) (by decide)
        have e14 : V6 0 2 = 72 := by rw [hF11 0 2 (by decide) (by decide)]; exact e3
        have e15 : V6 0 11 = 57 := by rw [hF11 0 11 (by decide) (by decide)]; exact e4
        exact pm_iret hC hR pm_nar0 ⟨y8, rfl, ⟨by omega, by omega⟩, hV10, hF13, (fun q => by exfalso; omega), (fun q => by exfalso; omega), (fun _ _ => hF11), (fun _ q => absurd (((hF11 0 11 (by decide) (by decide)).symm.trans e15).symm.trans q) (by decide)), (fun q1 q2 => by exfalso; omega), hT⟩ dX11_fault_32
      · skip
        replace hT := hT.trans (if_neg (by rw [e4]; decide))
        refine pm_getf (v := 63) hC 0 fl_X11_49 rfl rfl (by decide) rfl e4 dX11_fault_26 ?_
        refine pm_callV (ci := 3) (as := [(3, 63)]) (st := []) hC 72 fC_X3_read_63 lm_X11_122 li_X3_read (by decide) (by decide) rfl rfl rfl (by decide) rfl rfl (Nat.le_of_ble_eq_true rfl) ⟨Nat.le_refl _, Or.inl rfl⟩ dX11_fault_29 ⟨rfl, hV0⟩ (fun r16 V17 hp18 => ?_)
        obtain ⟨y19, rfl, b20, hV21, hF22, hE23⟩ := hp18
        replace hF22 := pm_fr.ff hF22
        replace hT := hT.trans (pf_call_eq hE23)
        change pm_J X 32 [(0, (3, 0)), (1, (0, a1))] [(0, y19)] 118 V17
        have hF24 := pm_ff.tr (pm_ff.rf (cs := [3, 45, 46, 47, 48, 49, 50, 51, 52, 53, 54, 55, 56, 57, 58, 59, 60, 61, 63, 64, 65, 66, 67, 69, 70, 71, 72]) (fs := []) (V := V0)) hF22 (by decide) (by decide)
        have e25 : V17 0 2 = 72 := by rw [hF22 0 2 (by decide) (by decide)]; exact e3
        have e26 : V17 0 11 = 63 := by rw [hF22 0 11 (by decide) (by decide)]; exact e4
        exact pm_iret hC hR pm_nar0 ⟨y19, rfl, ⟨by omega, by omega⟩, hV21, hF24, (fun q => by exfalso; omega), (fun q => by exfalso; omega), (fun _ q => absurd (((hF22 0 11 (by decide) (by decide)).symm.trans e26).symm.trans q) (by decide)), (fun _ _ => hF22), (fun q1 q2 => by exfalso; omega), hT⟩ dX11_fault_32
  · skip
    replace hT := hT.trans (if_neg (fun q => q c1))
    refine pm_aload_n hC 0 (by decide) dX11_fault_4 rfl ?_
    have e27 : V0 0 1 = 69 := hV0.one 0 1 (by decide) (by decide) rfl
    refine pm_getf (v := 69) hC 0 fl_X11_57 rfl rfl (by decide) rfl e27 dX11_fault_5 ?_
    refine pm_aload_n hC 0 (by decide) dX11_fault_8 rfl ?_
    rcases hV0.get2 0 9 (lo := 45) (hi := 51) (by decide) (by decide) rfl with e28 | e28
    · skip
      replace hT := hT.trans (if_pos e28)
      refine pm_getf (v := 45) hC 0 fl_X11_39 rfl rfl (by decide) rfl e28 dX11_fault_9 ?_
      refine pm_callV (ci := 6) (as := [(3, 45)]) (st := []) hC 69 fC_X6_read_45 lm_X11_118 li_X6_read (by decide) (by decide) rfl rfl rfl (by decide) rfl rfl (Nat.le_of_ble_eq_true rfl) ⟨Nat.le_refl _, Or.inl rfl⟩ dX11_fault_12 ⟨rfl, hV0⟩ (fun r29 V30 hp31 => ?_)
      obtain ⟨y32, rfl, b33, hV34, hF35, hE36⟩ := hp31
      replace hF35 := pm_fr.ff hF35
      replace hT := hT.trans (pf_call_eq hE36)
      change pm_J X 15 [(0, (3, 0)), (1, (0, a1))] [(0, y32)] 118 V30
      have hF37 := pm_ff.tr (pm_ff.rf (cs := [3, 45, 46, 47, 48, 49, 50, 51, 52, 53, 54, 55, 56, 57, 58, 59, 60, 61, 63, 64, 65, 66, 67, 69, 70, 71, 72]) (fs := []) (V := V0)) hF35 (by decide) (by decide)
      have e38 : V30 0 1 = 69 := by rw [hF35 0 1 (by decide) (by decide)]; exact e27
      have e39 : V30 0 9 = 45 := by rw [hF35 0 9 (by decide) (by decide)]; exact e28
      exact pm_iret hC hR pm_nar0 ⟨y32, rfl, ⟨by omega, by omega⟩, hV34, hF37, (fun _ _ => hF35), (fun _ q => absurd (((hF35 0 9 (by decide) (by decide)).symm.trans e39).symm.trans q) (by decide)), (fun q => by exfalso; omega), (fun q => by exfalso; omega), (fun q1 q2 => by exfalso; omega), hT⟩ dX11_fault_15
    · skip
      replace hT := hT.trans (if_neg (by rw [e28]; decide))
      refine pm_getf (v := 51) hC 0 fl_X11_39 rfl rfl (by decide) rfl e28 dX11_fault_9 ?_
      refine pm_callV (ci := 6) (as := [(3, 51)]) (st := []) hC 69 fC_X6_read_51 lm_X11_118 li_X6_read (by decide) (by decide) rfl rfl rfl (by decide) rfl rfl (Nat.le_of_ble_eq_true rfl) ⟨Nat.le_refl _, Or.inl rfl⟩ dX11_fault_12 ⟨rfl, hV0⟩ (fun r40 V41 hp42 => ?_)
      obtain ⟨y43, rfl, b44, hV45, hF46, hE47⟩ := hp42
      replace hF46 := pm_fr.ff hF46
      replace hT := hT.trans (pf_call_eq hE47)
      change pm_J X 15 [(0, (3, 0)), (1, (0, a1))] [(0, y43)] 118 V41
      have hF48 := pm_ff.tr (pm_ff.rf (cs := [3, 45, 46, 47, 48, 49, 50, 51, 52, 53, 54, 55, 56, 57, 58, 59, 60, 61, 63, 64, 65, 66, 67, 69, 70, 71, 72]) (fs := []) (V := V0)) hF46 (by decide) (by decide)
      have e49 : V41 0 1 = 69 := by rw [hF46 0 1 (by decide) (by decide)]; exact e27
      have e50 : V41 0 9 = 51 := by rw [hF46 0 9 (by decide) (by decide)]; exact e28
      exact pm_iret hC hR pm_nar0 ⟨y43, rfl, ⟨by omega, by omega⟩, hV45, hF48, (fun _ q => absurd (((hF46 0 9 (by decide) (by decide)).symm.trans e50).symm.trans q) (by decide)), (fun _ _ => hF46), (fun q => by exfalso; omega), (fun q => by exfalso; omega), (fun q1 q2 => by exfalso; omega), hT⟩ dX11_fault_15
set_option maxHeartbeats 4000000 in
set_option maxRecDepth 100000 in
theorem fD_X7_begin_4 (a1 : Int) (h0 : 0 ≤ a1 ∧ a1 ≤ 16) : pm_K 3 yX7_begin cX7_begin 2 none (fun av V => av = [(3, 4), (0, a1)] ∧ pm_ok 0 90 V) (fun _ V r V' => r = none ∧ pm_ok 0 90 V' ∧ pm_ff [5, 6, 7, 8] [(4, 1), (4, 6)] V V' ∧ (V' 4 1 = 1) ∧ (V' 4 6 = 0) ∧ F_X7_begin a1 V = (0, V')) := by
  refine pm_MT.of (by decide) ⟨Nat.le_refl _, by decide⟩ (fun av V h => by rw [h.1]; exact (by decide : pm_words [(3, 0), (0, 0)] ≤ 2)) ?_
  rintro X av V0 hC - hR ⟨rfl, hV0⟩
  change pm_J X 0 [(0, (3, 4)), (1, (0, a1))] [] 118 V0
  have hT := F_X7_begin_eq a1 V0
  refine pm_aload_n hC 0 (by decide) dX7_begin_0 rfl ?_
  refine pm_iconst (v := 0) hC dX7_begin_1 ?_
  refine pm_putf hC 4 fl_X7_15 rfl rfl rfl (by decide) rfl trivial dX7_begin_2 ?_
  refine pm_aload_n hC 0 (by decide) dX7_begin_5 rfl ?_
  refine pm_iconst (v := 0) hC dX7_begin_6 ?_
  refine pm_putf hC 4 fl_X7_32 rfl rfl rfl (by decide) rfl trivial dX7_begin_7 ?_
  refine pm_aload_n hC 0 (by decide) dX7_begin_10 rfl ?_
  refine pm_iconst (v := 0) hC dX7_begin_11 ?_
  refine pm_iconst (v := 0) hC dX7_begin_12 ?_
  refine pm_iload_n hC 1 dX7_begin_13 rfl ?_
  refine pm_iconst (v := 0) hC dX7_begin_14 ?_
  have hV3 := ((hV0.put 4 1 (x := 0) (lo := 0) (hi := 10) rfl ⟨by decide, by decide⟩).put 4 6 (x := 0) (lo := 0) (hi := 60) rfl ⟨by decide, by decide⟩)
  have hF4 := (((pm_ff.rf (cs := [5, 6, 7, 8]) (fs := [(4, 1), (4, 6)]) (V := V0)).upf 4 1 0 rfl).upf 4 6 0 rfl)
  obtain ⟨V1, hv2⟩ : ∃ V, V = (pm_up (pm_up V0 4 1 0) 4 6 0) := ⟨_, rfl⟩
  rw [← hv2] at hV3 hF4
  rw [← hv2]
  replace hT := hT.trans (pf_let_eq hv2.symm)
  have e5 : V1 4 1 = 0 := by rw [hv2]; rfl
  have e6 : V1 4 6 = 0 := by rw [hv2]; rfl
  refine pm_callV (ci := 7) (as := [(0, 0), (0, 0), (0, a1), (0, 0)]) (st := []) hC 4 (fD_X7_addPerson_4 0 0 a1 0 ⟨by decide, by decide⟩ ⟨by decide, by decide⟩ ⟨by omega, by omega⟩ ⟨by decide, by decide⟩) lm_X7_51 li_X7_addPerson (by decide) (by decide) rfl rfl rfl (by decide) rfl rfl (Nat.le_of_ble_eq_true rfl) ⟨Nat.le_refl _, Or.inl rfl⟩ dX7_begin_15 ⟨rfl, hV3⟩ (fun r7 V8 hp9 => ?_)
  obtain ⟨y10, rfl, b11, hV12, hF13, hxp14, hE15⟩ := hp9
  replace hT := hT.trans (pf_call_eq hE15)
  change pm_J X 18 [(0, (3, 4)), (1, (0, a1))] [(0, y10)] 118 V8
  have hF16 := pm_ff.tr hF4 hF13 (by decide) (by decide)
  have e17 : V8 4 6 = 0 := by rw [hF13 4 6 (by decide) (by decide)]; exact e6
  have e18 : V8 4 1 = 1 := by have q2 := hxp14 (by rw [e5]; decide); rw [e5] at q2; exact q2
  refine pm_pop hC rfl dX7_begin_18 ?_
  exact pm_vret hC hR ⟨rfl, hV12, hF16, (show V8 4 1 = 1 from e18), (show V8 4 6 = 0 from e17), hT⟩ dX7_begin_19
set_option maxHeartbeats 4000000 in
set_option maxRecDepth 100000 in
theorem fD_X11_scene_0  : pm_K 7 yX11_scene cX11_scene 3 (some .int) (fun av V => av = [(3, 0)] ∧ pm_ok 0 90 V) (fun _ V r V' => ∃ y, r = some (0, y) ∧ ((-1) ≤ y ∧ y ≤ 9) ∧ pm_ok 0 90 V' ∧ pm_ff [3, 5, 6, 7, 8, 45, 46, 47, 48, 49, 50, 51, 52, 53, 54, 55, 56, 69, 70, 71] [(0, 8), (0, 9), (1, 1), (4, 1), (4, 6), (15, 0), (25, 0), (35, 0)] V V' ∧ (V 0 9 = 45 → ∃ z W, F_X6_read 45 V = (z, W) ∧ ((z = -1 ∧ 0 ≤ y ∧ V' 1 1 = 0 ∧ y = W 45 0 ∧ V' 0 8 = 45 ∧ V' 0 9 = V 0 8 ∧ V' 4 1 = 1 ∧ V' 4 6 = 0 ∧ V' 15 0 = 0 ∧ V' 25 0 = 0 ∧ V' 35 0 = 0 ∧ sq_keep 45 V' W) ∨ (z ≠ -1 ∧ y = -1 ∧ V' = W ∧ pm_ff [3, 45, 46, 47, 48, 49, 50, 69, 70, 71] [] V V'))) ∧ (V 0 9 = 51 → ∃ z W, F_X6_read 51 V = (z, W) ∧ ((z = -1 ∧ 0 ≤ y ∧ V' 1 1 = 0 ∧ y = W 51 0 ∧ V' 0 8 = 51 ∧ V' 0 9 = V 0 8 ∧ V' 4 1 = 1 ∧ V' 4 6 = 0 ∧ V' 15 0 = 0 ∧ V' 25 0 = 0 ∧ V' 35 0 = 0 ∧ sq_keep 51 V' W) ∨ (z ≠ -1 ∧ y = -1 ∧ V' = W ∧ pm_ff [3, 51, 52, 53, 54, 55, 56, 69, 70, 71] [] V V'))) ∧ F_X11_scene  V = (y, V')) := by
  refine pm_MT.of (by decide) ⟨Nat.le_refl _, by decide⟩ (fun av V h => by rw [h.1]; exact (by decide : pm_words [(3, 0)] ≤ 3)) ?_
  rintro X av V0 hC - hR ⟨rfl, hV0⟩
  change pm_J X 0 [(0, (3, 0))] [] 118 V0
  have hT := F_X11_scene_eq  V0
  refine pm_aload_n hC 0 (by decide) dX11_scene_0 rfl ?_
  have e1 : V0 0 1 = 69 := hV0.one 0 1 (by decide) (by decide) rfl
  refine pm_getf (v := 69) hC 0 fl_X11_57 rfl rfl (by decide) rfl e1 dX11_scene_1 ?_
  refine pm_aload_n hC 0 (by decide) dX11_scene_4 rfl ?_
  rcases hV0.get2 0 9 (lo := 45) (hi := 51) (by decide) (by decide) rfl with e2 | e2
  · skip
    replace hT := hT.trans (if_pos e2)
    refine pm_getf (v := 45) hC 0 fl_X11_39 rfl rfl (by decide) rfl e2 dX11_scene_5 ?_
    refine pm_callV (ci := 6) (as := [(3, 45)]) (st := []) hC 69 fC_X6_read_45 lm_X11_118 li_X6_read (by decide) (by decide) rfl rfl rfl (by decide) rfl rfl (Nat.le_of_ble_eq_true rfl) ⟨Nat.le_refl _, Or.inl rfl⟩ dX11_scene_8 ⟨rfl, hV0⟩ (fun r3 V4 hp5 => ?_)
    obtain ⟨y6, rfl, b7, hV8, hF9, hE10⟩ := hp5
    replace hF9 := pm_fr.ff hF9
    replace hT := hT.trans (pf_call_eq hE10)
    change pm_J X 11 [(0, (3, 0))] [(0, y6)] 118 V4
    have hF11 := pm_ff.tr (pm_ff.rf (cs := [3, 5, 6, 7, 8, 45, 46, 47, 48, 49, 50, 51, 52, 53, 54, 55, 56, 69, 70, 71]) (fs := [(0, 8), (0, 9), (1, 1), (4, 1), (4, 6), (15, 0), (25, 0), (35, 0)]) (V := V0)) hF9 (by decide) (by decide)
    have e12 : V4 0 1 = 69 := by rw [hF9 0 1 (by decide) (by decide)]; exact e1
    have e13 : V4 0 9 = 45 := by rw [hF9 0 9 (by decide) (by decide)]; exact e2
    obtain ⟨y14, e15⟩ : ∃ y, V4 45 0 = y := ⟨_, rfl⟩
    have b16 := hV8.get 45 0 (lo := 0) (hi := 9) (by decide) (by decide) rfl
    rw [e15] at b16
    replace hT := hT.trans (pf_let_eq e15)
    refine pm_iconst (v := (-1)) hC dX11_scene_11 ?_
    refine pm_icmp_eq (tgt := 17) hC ⟨by omega, by omega⟩ ⟨by decide, by decide⟩ dX11_scene_12 (by decide) (fun c17 => ?_) (fun c17 => ?_)
    · skip
      replace hT := hT.trans (if_pos c17)
      refine pm_aload_n hC 0 (by decide) dX11_scene_17 rfl ?_
      rcases hV8.get2 0 8 (lo := 45) (hi := 51) (by decide) (by decide) rfl with e18 | e18
      · skip
        replace hT := hT.trans (if_pos e18)
        refine pm_getf (v := 45) hC 0 fl_X11_35 rfl rfl (by decide) rfl e18 dX11_scene_18 ?_
        refine pm_astore_n (lv' := [(1, (3, 45)), (0, (3, 0))]) hC (by decide) dX11_scene_21 (by decide) rfl ?_
        refine pm_aload_n hC 1 (by decide) dX11_scene_22 rfl ?_
        refine pm_aload_n hC 1 (by decide) dX11_scene_23 rfl ?_
        refine pm_getf (v := 45) hC 0 fl_X11_39 rfl rfl (by decide) rfl e13 dX11_scene_24 ?_
        refine pm_putf hC 0 fl_X11_35 rfl rfl rfl (by decide) rfl trivial dX11_scene_27 ?_
        refine pm_aload_n hC 1 (by decide) dX11_scene_30 rfl ?_
        refine pm_aload_n hC 0 (by decide) dX11_scene_31 rfl ?_
        refine pm_putf hC 0 fl_X11_39 rfl rfl rfl (by decide) rfl trivial dX11_scene_32 ?_
        refine pm_aload_n hC 1 (by decide) dX11_scene_35 rfl ?_
        have e19 : V4 0 0 = 1 := hV8.one 0 0 (by decide) (by decide) rfl
        refine pm_getf (v := 1) hC 0 fl_X11_10 rfl rfl (by decide) rfl e19 dX11_scene_36 ?_
        refine pm_iconst (v := 0) hC dX11_scene_39 ?_
        refine pm_putf hC 1 fl_X11_111 rfl rfl rfl (by decide) rfl trivial dX11_scene_40 ?_
        refine pm_aload_n hC 1 (by decide) dX11_scene_43 rfl ?_
        have e20 : V4 0 3 = 4 := hV8.one 0 3 (by decide) (by decide) rfl
        refine pm_getf (v := 4) hC 0 fl_X11_24 rfl rfl (by decide) rfl e20 dX11_scene_44 ?_
        refine pm_aload_n hC 1 (by decide) dX11_scene_47 rfl ?_
        refine pm_getf (v := 45) hC 0 fl_X11_35 rfl rfl (by decide) rfl rfl dX11_scene_48 ?_
        obtain ⟨y21, e22⟩ : ∃ y, V4 45 8 = y := ⟨_, rfl⟩
        have b23 := hV8.get 45 8 (lo := 0) (hi := 16) (by decide) (by decide) rfl
        rw [e22] at b23
        replace hT := hT.trans (pf_let_eq e22)
        refine pm_getf (v := y21) hC 45 fl_X11_126 rfl rfl (by decide) rfl e22 dX11_scene_51 ?_
        refine pm_callV (ci := 7) (as := [(0, y21)]) (st := []) hC 4 (fD_X7_begin_4 y21 ⟨by omega, by omega⟩) lm_X11_129 li_X7_begin (by decide) (by decide) rfl rfl rfl (by decide) rfl rfl (Nat.le_of_ble_eq_true rfl) ⟨Nat.le_refl _, Or.inl rfl⟩ dX11_scene_54 ⟨rfl, (((hV8.put2 0 8 (x := 45) (lo := 45) (hi := 51) rfl ⟨by omega, by decide⟩).put2 0 9 (x := 45) (lo := 45) (hi := 51) rfl ⟨by omega, by decide⟩).put 1 1 (x := 0) (lo := 0) (hi := 500) rfl ⟨by decide, by decide⟩)⟩ (fun r24 V25 hp26 => ?_)
        obtain ⟨rfl, hV27, hF28, hxp29, hxp30, hE31⟩ := hp26
        replace hT := hT.trans (pf_call_eq hE31)
        change pm_J X 57 [(1, (3, 45)), (0, (3, 0))] [] 118 V25
        have hF32 := pm_ff.tr (((hF11.upf 0 8 45 rfl).upf 0 9 45 rfl).upf 1 1 0 rfl) hF28 (by decide) (by decide)
        have e33 : V25 0 1 = 69 := by rw [hF28 0 1 (by decide) (by decide)]; exact e12
        have e34 : V25 45 0 = y14 := by rw [hF28 45 0 (by decide) (by decide)]; exact e15
        have e35 : V25 0 0 = 1 := by rw [hF28 0 0 (by decide) (by decide)]; exact e19
        have e36 : V25 0 3 = 4 := by rw [hF28 0 3 (by decide) (by decide)]; exact e20
        have e37 : V25 45 8 = y21 := by rw [hF28 45 8 (by decide) (by decide)]; exact e22
        have e38 : V25 0 8 = 45 := by rw [hF28 0 8 (by decide) (by decide)]; rfl
        have e39 : V25 0 9 = 45 := by rw [hF28 0 9 (by decide) (by decide)]; rfl
        have e40 : V25 1 1 = 0 := by rw [hF28 1 1 (by decide) (by decide)]; rfl
        have hkp41 : sq_keep 45 V25 V4 := ⟨hF28.cell 45 rfl rfl, hF28.cell 46 rfl rfl, hF28.cell 47 rfl rfl, hF28.cell 48 rfl rfl, hF28.cell 49 rfl rfl, hF28.cell 50 rfl rfl⟩
        refine pm_iconst (v := 0) hC dX11_scene_57 ?_
        refine pm_istore_n (lv' := [(2, (0, 0)), (1, (3, 45)), (0, (3, 0))]) hC dX11_scene_58 (by decide) rfl ?_
        obtain ⟨B59, hB60, hT⟩ := pf_loop hT
        have L62 : ∀ (N64 : Nat) (x42 : Int) (V44 : pm_M), (0 ≤ x42 ∧ x42 ≤ 3) → pm_ok 0 90 V44 → pm_ff [3, 5, 6, 7, 8, 45, 46, 47, 48, 49, 50, 51, 52, 53, 54, 55, 56, 69, 70, 71] [(0, 8), (0, 9), (1, 1), (4, 1), (4, 6), (15, 0), (25, 0), (35, 0)] V0 V44 → V44 0 1 = 69 → V44 45 0 = y14 → V44 0 0 = 1 → V44 0 3 = 4 → V44 45 8 = y21 → V44 0 8 = 45 → V44 0 9 = 45 → V44 1 1 = 0 → V44 4 1 = 1 → V44 4 6 = 0 → ((1 ≤ x42 → V44 15 0 = 0) ∧ (2 ≤ x42 → V44 25 0 = 0) ∧ (3 ≤ x42 → V44 35 0 = 0)) → (sq_keep 45 V44 V4) → F_X11_scene  V0 = pf_val ((0 : Int), V0) B59 (x42, V44) → (Int.toNat (3 - x42)) = N64 → pm_J X 59 [(0, (3, 0)), (1, (3, 45)), (2, (0, x42))] [] 118 V44 := by
          intro N64
          induction N64 using Nat.strongRecOn with
          | _ N64 ih65 =>
          intro x42 V44 b43 hV45 hF46 e47 e48 e49 e50 e51 e52 e53 e54 e55 e56 hx57 hx58 hT hm63
          have hb61 := congrFun hB60 (x42, V44)
          refine pm_iload_n hC 2 dX11_scene_59 rfl ?_
          refine pm_iconst (v := 3) hC dX11_scene_60 ?_
          refine pm_icmp_ge (tgt := 80) hC ⟨by omega, by omega⟩ ⟨by decide, by decide⟩ dX11_scene_61 (by decide) (fun c66 => ?_) (fun c66 => ?_)
          · skip
            replace hb61 := hb61.trans (if_pos c66)
            refine pm_aload_n hC 0 (by decide) dX11_scene_80 rfl ?_
            refine pm_getf (v := 45) hC 0 fl_X11_35 rfl rfl (by decide) rfl e52 dX11_scene_81 ?_
            refine pm_getf (v := y14) hC 45 fl_X11_136 rfl rfl (by decide) rfl e48 dX11_scene_84 ?_
            have hT := hT.trans (pf_val_inr hb61)
            exact pm_iret hC hR pm_nar0 ⟨y14, rfl, ⟨by omega, by omega⟩, hV45, hF46, (fun _ => ⟨y6, V4, hE10, Or.inl ⟨by omega, by omega, (show V44 1 1 = 0 from e54), (show y14 = V4 45 0 from e15.symm), (show V44 0 8 = 45 from e52), ((show V44 0 9 = 45 from e53).trans ((hF9 0 8 (by decide) (by decide)).symm.trans e18).symm), (show V44 4 1 = 1 from e55), (show V44 4 6 = 0 from e56), (hx57.1 (by omega)), (hx57.2.1 (by omega)), (hx57.2.2 (by omega)), hx58⟩⟩), (fun q => absurd (((hF9 0 9 (by decide) (by decide)).symm.trans e13).symm.trans q) (by decide)), hT⟩ dX11_scene_87
          · skip
            replace hb61 := hb61.trans (if_neg (Int.not_le.mpr c66))
            refine pm_aload_n hC 0 (by decide) dX11_scene_64 rfl ?_
            have e67 : V44 0 4 = 14 := hV45.one 0 4 (by decide) (by decide) rfl
            refine pm_getf (v := 14) hC 0 fl_X11_28 rfl rfl (by decide) rfl e67 dX11_scene_65 ?_
            refine pm_iload_n hC 2 dX11_scene_68 rfl ?_
            rcases (show x42 = (0 : Int) ∨ x42 = (1 : Int) ∨ x42 = (2 : Int) by omega) with hk | hk | hk
            · skip
              have e68 : V44 14 (x42 : Int).toNat = 15 := by rw [hk]; exact hV45.one 14 0 (by decide) (by decide) rfl
              replace hb61 := hb61.trans (if_pos hk)
              refine pm_aaload (len := 3) (v := 15) hC 14 rfl rfl (by decide) ⟨by omega, by omega⟩ (by decide) e68 dX11_scene_69 ?_
              refine pm_iconst (v := 0) hC dX11_scene_70 ?_
              refine pm_putf hC 15 fl_X11_132 rfl rfl rfl (by decide) rfl (by show _ = (0 : Int) ∨ _ = (1 : Int); omega) dX11_scene_71 ?_
              obtain ⟨x69, ei70⟩ : ∃ y : Int, x42 + 1 = y := ⟨_, rfl⟩
              replace hb61 := hb61.trans (pf_let_eq ei70)
              refine pm_iinc (y := x69) (lv' := [(2, (0, x69)), (0, (3, 0)), (1, (3, 45))]) hC 2 dX11_scene_74 (by decide) rfl ei70 rfl ?_
              refine pm_goto (tgt := 59) hC dX11_scene_77 (by decide) ?_
              refine pm_lvsub [1, 2, 0] (lv' := [(0, (3, 0)), (1, (3, 45)), (2, (0, x69))]) rfl ?_
              exact ih65 _ (by omega) x69 (pm_up V44 15 0 0) ⟨by omega, by omega⟩ (hV45.put 15 0 (x := 0) (lo := 0) (hi := 1) rfl ⟨by decide, by decide⟩) (hF46.upf 15 0 0 rfl) e47 e48 e49 e50 e51 e52 e53 e54 e55 e56 (by refine ⟨fun h => ?_, fun h => ?_, fun h => ?_⟩ <;> first | (exfalso; omega) | rfl | exact hx57.1 (by omega) | exact hx57.2.1 (by omega) | exact hx57.2.2 (by omega)) (by exact hx58) (hT.trans (pf_val_inl hb61)) rfl
            · skip
              have e71 : V44 14 (x42 : Int).toNat = 25 := by rw [hk]; exact hV45.one 14 1 (by decide) (by decide) rfl
              replace hb61 := hb61.trans (if_neg (by omega))
              replace hb61 := hb61.trans (if_pos hk)
              refine pm_aaload (len := 3) (v := 25) hC 14 rfl rfl (by decide) ⟨by omega, by omega⟩ (by decide) e71 dX11_scene_69 ?_
              refine pm_iconst (v := 0) hC dX11_scene_70 ?_
              refine pm_putf hC 25 fl_X11_132 rfl rfl rfl (by decide) rfl (by show _ = (0 : Int) ∨ _ = (1 : Int); omega) dX11_scene_71 ?_
              obtain ⟨x72, ei73⟩ : ∃ y : Int, x42 + 1 = y := ⟨_, rfl⟩
              replace hb61 := hb61.trans (pf_let_eq ei73)
              refine pm_iinc (y := x72) (lv' := [(2, (0, x72)), (0, (3, 0)), (1, (3, 45))]) hC 2 dX11_scene_74 (by decide) rfl ei73 rfl ?_
              refine pm_goto (tgt := 59) hC dX11_scene_77 (by decide) ?_
              refine pm_lvsub [1, 2, 0] (lv' := [(0, (3, 0)), (1, (3, 45)), (2, (0, x72))]) rfl ?_
              exact ih65 _ (by omega) x72 (pm_up V44 25 0 0) ⟨by omega, by omega⟩ (hV45.put 25 0 (x := 0) (lo := 0) (hi := 1) rfl ⟨by decide, by decide⟩) (hF46.upf 25 0 0 rfl) e47 e48 e49 e50 e51 e52 e53 e54 e55 e56 (by refine ⟨fun h => ?_, fun h => ?_, fun h => ?_⟩ <;> first | (exfalso; omega) | rfl | exact hx57.1 (by omega) | exact hx57.2.1 (by omega) | exact hx57.2.2 (by omega)) (by exact hx58) (hT.trans (pf_val_inl hb61)) rfl
            · skip
              have e74 : V44 14 (x42 : Int).toNat = 35 := by rw [hk]; exact hV45.one 14 2 (by decide) (by decide) rfl
              replace hb61 := hb61.trans (if_neg (by omega))
              replace hb61 := hb61.trans (if_neg (by omega))
              refine pm_aaload (len := 3) (v := 35) hC 14 rfl rfl (by decide) ⟨by omega, by omega⟩ (by decide) e74 dX11_scene_69 ?_
              refine pm_iconst (v := 0) hC dX11_scene_70 ?_
              refine pm_putf hC 35 fl_X11_132 rfl rfl rfl (by decide) rfl (by show _ = (0 : Int) ∨ _ = (1 : Int); omega) dX11_scene_71 ?_
              obtain ⟨x75, ei76⟩ : ∃ y : Int, x42 + 1 = y := ⟨_, rfl⟩
              replace hb61 := hb61.trans (pf_let_eq ei76)
              refine pm_iinc (y := x75) (lv' := [(2, (0, x75)), (0, (3, 0)), (1, (3, 45))]) hC 2 dX11_scene_74 (by decide) rfl ei76 rfl ?_
              refine pm_goto (tgt := 59) hC dX11_scene_77 (by decide) ?_
              refine pm_lvsub [1, 2, 0] (lv' := [(0, (3, 0)), (1, (3, 45)), (2, (0, x75))]) rfl ?_
              exact ih65 _ (by omega) x75 (pm_up V44 35 0 0) ⟨by omega, by omega⟩ (hV45.put 35 0 (x := 0) (lo := 0) (hi := 1) rfl ⟨by decide, by decide⟩) (hF46.upf 35 0 0 rfl) e47 e48 e49 e50 e51 e52 e53 e54 e55 e56 (by refine ⟨fun h => ?_, fun h => ?_, fun h => ?_⟩ <;> first | (exfalso; omega) | rfl | exact hx57.1 (by omega) | exact hx57.2.1 (by omega) | exact hx57.2.2 (by omega)) (by exact hx58) (hT.trans (pf_val_inl hb61)) rfl
        refine pm_lvsub [2, 1, 0] (lv' := [(0, (3, 0)), (1, (3, 45)), (2, (0, 0))]) rfl ?_
        exact L62 _ 0 V25 ⟨by decide, by decide⟩ hV27 hF32 e33 e34 e35 e36 e37 e38 e39 e40 hxp29 hxp30 ⟨fun h => absurd h (by omega), fun h => absurd h (by omega), fun h => absurd h (by omega)⟩ hkp41 hT rfl
      · skip
        replace hT := hT.trans (if_neg (by rw [e18]; decide))
        refine pm_getf (v := 51) hC 0 fl_X11_35 rfl rfl (by decide) rfl e18 dX11_scene_18 ?_
        refine pm_astore_n (lv' := [(1, (3, 51)), (0, (3, 0))]) hC (by decide) dX11_scene_21 (by decide) rfl ?_
        refine pm_aload_n hC 1 (by decide) dX11_scene_22 rfl ?_
        refine pm_aload_n hC 1 (by decide) dX11_scene_23 rfl ?_
        refine pm_getf (v := 45) hC 0 fl_X11_39 rfl rfl (by decide) rfl e13 dX11_scene_24 ?_
        refine pm_putf hC 0 fl_X11_35 rfl rfl rfl (by decide) rfl trivial dX11_scene_27 ?_
        refine pm_aload_n hC 1 (by decide) dX11_scene_30 rfl ?_
        refine pm_aload_n hC 0 (by decide) dX11_scene_31 rfl ?_
        refine pm_putf hC 0 fl_X11_39 rfl rfl rfl (by decide) rfl trivial dX11_scene_32 ?_
        refine pm_aload_n hC 1 (by decide) dX11_scene_35 rfl ?_
        have e77 : V4 0 0 = 1 := hV8.one 0 0 (by decide) (by decide) rfl
        refine pm_getf (v := 1) hC 0 fl_X11_10 rfl rfl (by decide) rfl e77 dX11_scene_36 ?_
        refine pm_iconst (v := 0) hC dX11_scene_39 ?_
        refine pm_putf hC 1 fl_X11_111 rfl rfl rfl (by decide) rfl trivial dX11_scene_40 ?_
        refine pm_aload_n hC 1 (by decide) dX11_scene_43 rfl ?_
        have e78 : V4 0 3 = 4 := hV8.one 0 3 (by decide) (by decide) rfl
        refine pm_getf (v := 4) hC 0 fl_X11_24 rfl rfl (by decide) rfl e78 dX11_scene_44 ?_
        refine pm_aload_n hC 1 (by decide) dX11_scene_47 rfl ?_
        refine pm_getf (v := 45) hC 0 fl_X11_35 rfl rfl (by decide) rfl rfl dX11_scene_48 ?_
        obtain ⟨y79, e80⟩ : ∃ y, V4 45 8 = y := ⟨_, rfl⟩
        have b81 := hV8.get 45 8 (lo := 0) (hi := 16) (by decide) (by decide) rfl
        rw [e80] at b81
        replace hT := hT.trans (pf_let_eq e80)
        refine pm_getf (v := y79) hC 45 fl_X11_126 rfl rfl (by decide) rfl e80 dX11_scene_51 ?_
        refine pm_callV (ci := 7) (as := [(0, y79)]) (st := []) hC 4 (fD_X7_begin_4 y79 ⟨by omega, by omega⟩) lm_X11_129 li_X7_begin (by decide) (by decide) rfl rfl rfl (by decide) rfl rfl (Nat.le_of_ble_eq_true rfl) ⟨Nat.le_refl _, Or.inl rfl⟩ dX11_scene_54 ⟨rfl, (((hV8.put2 0 8 (x := 45) (lo := 45) (hi := 51) rfl ⟨by omega, by decide⟩).put2 0 9 (x := 51) (lo := 45) (hi := 51) rfl ⟨by omega, by decide⟩).put 1 1 (x := 0) (lo := 0) (hi := 500) rfl ⟨by decide, by decide⟩)⟩ (fun r82 V83 hp84 => ?_)
        obtain ⟨rfl, hV85, hF86, hxp87, hxp88, hE89⟩ := hp84
        replace hT := hT.trans (pf_call_eq hE89)
        change pm_J X 57 [(1, (3, 51)), (0, (3, 0))] [] 118 V83
        have hF90 := pm_ff.tr (((hF11.upf 0 8 45 rfl).upf 0 9 51 rfl).upf 1 1 0 rfl) hF86 (by decide) (by decide)
        have e91 : V83 0 1 = 69 := by rw [hF86 0 1 (by decide) (by decide)]; exact e12
        have e92 : V83 45 0 = y14 := by rw [hF86 45 0 (by decide) (by decide)]; exact e15
        have e93 : V83 0 0 = 1 := by rw [hF86 0 0 (by decide) (by decide)]; exact e77
        have e94 : V83 0 3 = 4 := by rw [hF86 0 3 (by decide) (by decide)]; exact e78
        have e95 : V83 45 8 = y79 := by rw [hF86 45 8 (by decide) (by decide)]; exact e80
        have e96 : V83 0 8 = 45 := by rw [hF86 0 8 (by decide) (by decide)]; rfl
        have e97 : V83 0 9 = 51 := by rw [hF86 0 9 (by decide) (by decide)]; rfl
        have e98 : V83 1 1 = 0 := by rw [hF86 1 1 (by decide) (by decide)]; rfl
        have hkp99 : sq_keep 45 V83 V4 := ⟨hF86.cell 45 rfl rfl, hF86.cell 46 rfl rfl, hF86.cell 47 rfl rfl, hF86.cell 48 rfl rfl, hF86.cell 49 rfl rfl, hF86.cell 50 rfl rfl⟩
        refine pm_iconst (v := 0) hC dX11_scene_57 ?_
        refine pm_istore_n (lv' := [(2, (0, 0)), (1, (3, 51)), (0, (3, 0))]) hC dX11_scene_58 (by decide) rfl ?_
        obtain ⟨B117, hB118, hT⟩ := pf_loop hT
        have L120 : ∀ (N122 : Nat) (x100 : Int) (V102 : pm_M), (0 ≤ x100 ∧ x100 ≤ 3) → pm_ok 0 90 V102 → pm_ff [3, 5, 6, 7, 8, 45, 46, 47, 48, 49, 50, 51, 52, 53, 54, 55, 56, 69, 70, 71] [(0, 8), (0, 9), (1, 1), (4, 1), (4, 6), (15, 0), (25, 0), (35, 0)] V0 V102 → V102 0 1 = 69 → V102 45 0 = y14 → V102 0 0 = 1 → V102 0 3 = 4 → V102 45 8 = y79 → V102 0 8 = 45 → V102 0 9 = 51 → V102 1 1 = 0 → V102 4 1 = 1 → V102 4 6 = 0 → ((1 ≤ x100 → V102 15 0 = 0) ∧ (2 ≤ x100 → V102 25 0 = 0) ∧ (3 ≤ x100 → V102 35 0 = 0)) → (sq_keep 45 V102 V4) → F_X11_scene  V0 = pf_val ((0 : Int), V0) B117 (x100, V102) → (Int.toNat (3 - x100)) = N122 → pm_J X 59 [(0, (3, 0)), (1, (3, 51)), (2, (0, x100))] [] 118 V102 := by
          intro N122
          induction N122 using Nat.strongRecOn with
          | _ N122 ih123 =>
          intro x100 V102 b101 hV103 hF104 e105 e106 e107 e108 e109 e110 e111 e112 e113 e114 hx115 hx116 hT hm121
          have hb119 := congrFun hB118 (x100, V102)
          refine pm_iload_n hC 2 dX11_scene_59 rfl ?_
          refine pm_iconst (v := 3) hC dX11_scene_60 ?_
          refine pm_icmp_ge (tgt := 80) hC ⟨by omega, by omega⟩ ⟨by decide, by decide⟩ dX11_scene_61 (by decide) (fun c124 => ?_) (fun c124 => ?_)
          · skip
            replace hb119 := hb119.trans (if_pos c124)
            refine pm_aload_n hC 0 (by decide) dX11_scene_80 rfl ?_
            refine pm_getf (v := 45) hC 0 fl_X11_35 rfl rfl (by decide) rfl e110 dX11_scene_81 ?_
            refine pm_getf (v := y14) hC 45 fl_X11_136 rfl rfl (by decide) rfl e106 dX11_scene_84 ?_
            have hT := hT.trans (pf_val_inr hb119)
            exact pm_iret hC hR pm_nar0 ⟨y14, rfl, ⟨by omega, by omega⟩, hV103, hF104, (fun _ => ⟨y6, V4, hE10, Or.inl ⟨by omega, by omega, (show V102 1 1 = 0 from e112), (show y14 = V4 45 0 from e15.symm), (show V102 0 8 = 45 from e110), ((show V102 0 9 = 51 from e111).trans ((hF9 0 8 (by decide) (by decide)).symm.trans e18).symm), (show V102 4 1 = 1 from e113), (show V102 4 6 = 0 from e114), (hx115.1 (by omega)), (hx115.2.1 (by omega)), (hx115.2.2 (by omega)), hx116⟩⟩), (fun q => absurd (((hF9 0 9 (by decide) (by decide)).symm.trans e13).symm.trans q) (by decide)), hT⟩ dX11_scene_87
          · skip
            replace hb119 := hb119.trans (if_neg (Int.not_le.mpr c124))
            refine pm_aload_n hC 0 (by decide) dX11_scene_64 rfl ?_
            have e125 : V102 0 4 = 14 := hV103.one 0 4 (by decide) (by decide) rfl
            refine pm_getf (v := 14) hC 0 fl_X11_28 rfl rfl (by decide) rfl e125 dX11_scene_65 ?_
            refine pm_iload_n hC 2 dX11_scene_68 rfl ?_
            rcases (show x100 = (0 : Int) ∨ x100 = (1 : Int) ∨ x100 = (2 : Int) by omega) with hk | hk | hk
            · skip
              have e126 : V102 14 (x100 : Int).toNat = 15 := by rw [hk]; exact hV103.one 14 0 (by decide) (by decide) rfl
              replace hb119 := hb119.trans (if_pos hk)
              refine pm_aaload (len := 3) (v := 15) hC 14 rfl rfl (by decide) ⟨by omega, by omega⟩ (by decide) e126 dX11_scene_69 ?_
              refine pm_iconst (v := 0) hC dX11_scene_70 ?_
              refine pm_putf hC 15 fl_X11_132 rfl rfl rfl (by decide) rfl (by show _ = (0 : Int) ∨ _ = (1 : Int); omega) dX11_scene_71 ?_
              obtain ⟨x127, ei128⟩ : ∃ y : Int, x100 + 1 = y := ⟨_, rfl⟩
              replace hb119 := hb119.trans (pf_let_eq ei128)
              refine pm_iinc (y := x127) (lv' := [(2, (0, x127)), (0, (3, 0)), (1, (3, 51))]) hC 2 dX11_scene_74 (by decide) rfl ei128 rfl ?_
              refine pm_goto (tgt := 59) hC dX11_scene_77 (by decide) ?_
              refine pm_lvsub [1, 2, 0] (lv' := [(0, (3, 0)), (1, (3, 51)), (2, (0, x127))]) rfl ?_
              exact ih123 _ (by omega) x127 (pm_up V102 15 0 0) ⟨by omega, by omega⟩ (hV103.put 15 0 (x := 0) (lo := 0) (hi := 1) rfl ⟨by decide, by decide⟩) (hF104.upf 15 0 0 rfl) e105 e106 e107 e108 e109 e110 e111 e112 e113 e114 (by refine ⟨fun h => ?_, fun h => ?_, fun h => ?_⟩ <;> first | (exfalso; omega) | rfl | exact hx115.1 (by omega) | exact hx115.2.1 (by omega) | exact hx115.2.2 (by omega)) (by exact hx116) (hT.trans (pf_val_inl hb119)) rfl
            · skip
              have e129 : V102 14 (x100 : Int).toNat = 25 := by rw [hk]; exact hV103.one 14 1 (by decide) (by decide) rfl
              replace hb119 := hb119.trans (if_neg (by omega))
              replace hb119 := hb119.trans (if_pos hk)
              refine pm_aaload (len := 3) (v := 25) hC 14 rfl rfl (by decide) ⟨by omega, by omega⟩ (by decide) e129 dX11_scene_69 ?_
              refine pm_iconst (v := 0) hC dX11_scene_70 ?_
              refine pm_putf hC 25 fl_X11_132 rfl rfl rfl (by decide) rfl (by show _ = (0 : Int) ∨ _ = (1 : Int); omega) dX11_scene_71 ?_
              obtain ⟨x130, ei131⟩ : ∃ y : Int, x100 + 1 = y := ⟨_, rfl⟩
              replace hb119 := hb119.trans (pf_let_eq ei131)
              refine pm_iinc (y := x130) (lv' := [(2, (0, x130)), (0, (3, 0)), (1, (3, 51))]) hC 2 dX11_scene_74 (by decide) rfl ei131 rfl ?_
              refine pm_goto (tgt := 59) hC dX11_scene_77 (by decide) ?_
              refine pm_lvsub [1, 2, 0] (lv' := [(0, (3, 0)), (1, (3, 51)), (2, (0, x130))]) rfl ?_
              exact ih123 _ (by omega) x130 (pm_up V102 25 0 0) ⟨by omega, by omega⟩ (hV103.put 25 0 (x := 0) (lo := 0) (hi := 1) rfl ⟨by decide, by decide⟩) (hF104.upf 25 0 0 rfl) e105 e106 e107 e108 e109 e110 e111 e112 e113 e114 (by refine ⟨fun h => ?_, fun h => ?_, fun h => ?_⟩ <;> first | (exfalso; omega) | rfl | exact hx115.1 (by omega) | exact hx115.2.1 (by omega) | exact hx115.2.2 (by omega)) (by exact hx116) (hT.trans (pf_val_inl hb119)) rfl
            · skip
              have e132 : V102 14 (x100 : Int).toNat = 35 := by rw [hk]; exact hV103.one 14 2 (by decide) (by decide) rfl
              replace hb119 := hb119.trans (if_neg (by omega))
              replace hb119 := hb119.trans (if_neg (by omega))
              refine pm_aaload (len := 3) (v := 35) hC 14 rfl rfl (by decide) ⟨by omega, by omega⟩ (by decide) e132 dX11_scene_69 ?_
              refine pm_iconst (v := 0) hC dX11_scene_70 ?_
              refine pm_putf hC 35 fl_X11_132 rfl rfl rfl (by decide) rfl (by show _ = (0 : Int) ∨ _ = (1 : Int); omega) dX11_scene_71 ?_
              obtain ⟨x133, ei134⟩ : ∃ y : Int, x100 + 1 = y := ⟨_, rfl⟩
              replace hb119 := hb119.trans (pf_let_eq ei134)
              refine pm_iinc (y := x133) (lv' := [(2, (0, x133)), (0, (3, 0)), (1, (3, 51))]) hC 2 dX11_scene_74 (by decide) rfl ei134 rfl ?_
              refine pm_goto (tgt := 59) hC dX11_scene_77 (by decide) ?_
              refine pm_lvsub [1, 2, 0] (lv' := [(0, (3, 0)), (1, (3, 51)), (2, (0, x133))]) rfl ?_
              exact ih123 _ (by omega) x133 (pm_up V102 35 0 0) ⟨by omega, by omega⟩ (hV103.put 35 0 (x := 0) (lo := 0) (hi := 1) rfl ⟨by decide, by decide⟩) (hF104.upf 35 0 0 rfl) e105 e106 e107 e108 e109 e110 e111 e112 e113 e114 (by refine ⟨fun h => ?_, fun h => ?_, fun h => ?_⟩ <;> first | (exfalso; omega) | rfl | exact hx115.1 (by omega) | exact hx115.2.1 (by omega) | exact hx115.2.2 (by omega)) (by exact hx116) (hT.trans (pf_val_inl hb119)) rfl
        refine pm_lvsub [2, 1, 0] (lv' := [(0, (3, 0)), (1, (3, 51)), (2, (0, 0))]) rfl ?_
        exact L120 _ 0 V83 ⟨by decide, by decide⟩ hV85 hF90 e91 e92 e93 e94 e95 e96 e97 e98 hxp87 hxp88 ⟨fun h => absurd h (by omega), fun h => absurd h (by omega), fun h => absurd h (by omega)⟩ hkp99 hT rfl
    · skip
      replace hT := hT.trans (if_neg c17)
      refine pm_iconst (v := (-1)) hC dX11_scene_15 ?_
      exact pm_iret hC hR pm_nar0 ⟨(-1), rfl, ⟨by omega, by omega⟩, hV8, hF11, (fun _ => ⟨y6, V4, hE10, Or.inr ⟨by omega, rfl, rfl, hF9⟩⟩), (fun q => absurd (((hF9 0 9 (by decide) (by decide)).symm.trans e13).symm.trans q) (by decide)), hT⟩ dX11_scene_16
  · skip
    replace hT := hT.trans (if_neg (by rw [e2]; decide))
    refine pm_getf (v := 51) hC 0 fl_X11_39 rfl rfl (by decide) rfl e2 dX11_scene_5 ?_
    refine pm_callV (ci := 6) (as := [(3, 51)]) (st := []) hC 69 fC_X6_read_51 lm_X11_118 li_X6_read (by decide) (by decide) rfl rfl rfl (by decide) rfl rfl (Nat.le_of_ble_eq_true rfl) ⟨Nat.le_refl _, Or.inl rfl⟩ dX11_scene_8 ⟨rfl, hV0⟩ (fun r135 V136 hp137 => ?_)
    obtain ⟨y138, rfl, b139, hV140, hF141, hE142⟩ := hp137
    replace hF141 := pm_fr.ff hF141
    replace hT := hT.trans (pf_call_eq hE142)
    change pm_J X 11 [(0, (3, 0))] [(0, y138)] 118 V136
    have hF143 := pm_ff.tr (pm_ff.rf (cs := [3, 5, 6, 7, 8, 45, 46, 47, 48, 49, 50, 51, 52, 53, 54, 55, 56, 69, 70, 71]) (fs := [(0, 8), (0, 9), (1, 1), (4, 1), (4, 6), (15, 0), (25, 0), (35, 0)]) (V := V0)) hF141 (by decide) (by decide)
    have e144 : V136 0 1 = 69 := by rw [hF141 0 1 (by decide) (by decide)]; exact e1
    have e145 : V136 0 9 = 51 := by rw [hF141 0 9 (by decide) (by decide)]; exact e2
    obtain ⟨y146, e147⟩ : ∃ y, V136 51 0 = y := ⟨_, rfl⟩
    have b148 := hV140.get 51 0 (lo := 0) (hi := 9) (by decide) (by decide) rfl
    rw [e147] at b148
    replace hT := hT.trans (pf_let_eq e147)
    refine pm_iconst (v := (-1)) hC dX11_scene_11 ?_
    refine pm_icmp_eq (tgt := 17) hC ⟨by omega, by omega⟩ ⟨by decide, by decide⟩ dX11_scene_12 (by decide) (fun c149 => ?_) (fun c149 => ?_)
    · skip
      replace hT := hT.trans (if_pos c149)
      refine pm_aload_n hC 0 (by decide) dX11_scene_17 rfl ?_
      rcases hV140.get2 0 8 (lo := 45) (hi := 51) (by decide) (by decide) rfl with e150 | e150
      · skip
        replace hT := hT.trans (if_pos e150)
        refine pm_getf (v := 45) hC 0 fl_X11_35 rfl rfl (by decide) rfl e150 dX11_scene_18 ?_
        refine pm_astore_n (lv' := [(1, (3, 45)), (0, (3, 0))]) hC (by decide) dX11_scene_21 (by decide) rfl ?_
        refine pm_aload_n hC 1 (by decide) dX11_scene_22 rfl ?_
        refine pm_aload_n hC 1 (by decide) dX11_scene_23 rfl ?_
        refine pm_getf (v := 51) hC 0 fl_X11_39 rfl rfl (by decide) rfl e145 dX11_scene_24 ?_
        refine pm_putf hC 0 fl_X11_35 rfl rfl rfl (by decide) rfl trivial dX11_scene_27 ?_
        refine pm_aload_n hC 1 (by decide) dX11_scene_30 rfl ?_
        refine pm_aload_n hC 0 (by decide) dX11_scene_31 rfl ?_
        refine pm_putf hC 0 fl_X11_39 rfl rfl rfl (by decide) rfl trivial dX11_scene_32 ?_
        refine pm_aload_n hC 1 (by decide) dX11_scene_35 rfl ?_
        have e151 : V136 0 0 = 1 := hV140.one 0 0 (by decide) (by decide) rfl
        refine pm_getf (v := 1) hC 0 fl_X11_10 rfl rfl (by decide) rfl e151 dX11_scene_36 ?_
        refine pm_iconst (v := 0) hC dX11_scene_39 ?_
        refine pm_putf hC 1 fl_X11_111 rfl rfl rfl (by decide) rfl trivial dX11_scene_40 ?_
        refine pm_aload_n hC 1 (by decide) dX11_scene_43 rfl ?_
        have e152 : V136 0 3 = 4 := hV140.one 0 3 (by decide) (by decide) rfl
        refine pm_getf (v := 4) hC 0 fl_X11_24 rfl rfl (by decide) rfl e152 dX11_scene_44 ?_
        refine pm_aload_n hC 1 (by decide) dX11_scene_47 rfl ?_
        refine pm_getf (v := 51) hC 0 fl_X11_35 rfl rfl (by decide) rfl rfl dX11_scene_48 ?_
        obtain ⟨y153, e154⟩ : ∃ y, V136 51 8 = y := ⟨_, rfl⟩
        have b155 := hV140.get 51 8 (lo := 0) (hi := 16) (by decide) (by decide) rfl
        rw [e154] at b155
        replace hT := hT.trans (pf_let_eq e154)
        refine pm_getf (v := y153) hC 51 fl_X11_126 rfl rfl (by decide) rfl e154 dX11_scene_51 ?_
        refine pm_callV (ci := 7) (as := [(0, y153)]) (st := []) hC 4 (fD_X7_begin_4 y153 ⟨by omega, by omega⟩) lm_X11_129 li_X7_begin (by decide) (by decide) rfl rfl rfl (by decide) rfl rfl (Nat.le_of_ble_eq_true rfl) ⟨Nat.le_refl _, Or.inl rfl⟩ dX11_scene_54 ⟨rfl, (((hV140.put2 0 8 (x := 51) (lo := 45) (hi := 51) rfl ⟨by omega, by decide⟩).put2 0 9 (x := 45) (lo := 45) (hi := 51) rfl ⟨by omega, by decide⟩).put 1 1 (x := 0) (lo := 0) (hi := 500) rfl ⟨by decide, by decide⟩)⟩ (fun r156 V157 hp158 => ?_)
        obtain ⟨rfl, hV159, hF160, hxp161, hxp162, hE163⟩ := hp158
        replace hT := hT.trans (pf_call_eq hE163)
        change pm_J X 57 [(1, (3, 45)), (0, (3, 0))] [] 118 V157
        have hF164 := pm_ff.tr (((hF143.upf 0 8 51 rfl).upf 0 9 45 rfl).upf 1 1 0 rfl) hF160 (by decide) (by decide)
        have e165 : V157 0 1 = 69 := by rw [hF160 0 1 (by decide) (by decide)]; exact e144
        have e166 : V157 51 0 = y146 := by rw [hF160 51 0 (by decide) (by decide)]; exact e147
        have e167 : V157 0 0 = 1 := by rw [hF160 0 0 (by decide) (by decide)]; exact e151
        have e168 : V157 0 3 = 4 := by rw [hF160 0 3 (by decide) (by decide)]; exact e152
        have e169 : V157 51 8 = y153 := by rw [hF160 51 8 (by decide) (by decide)]; exact e154
        have e170 : V157 0 8 = 51 := by rw [hF160 0 8 (by decide) (by decide)]; rfl
        have e171 : V157 0 9 = 45 := by rw [hF160 0 9 (by decide) (by decide)]; rfl
        have e172 : V157 1 1 = 0 := by rw [hF160 1 1 (by decide) (by decide)]; rfl
        have hkp173 : sq_keep 51 V157 V136 := ⟨hF160.cell 51 rfl rfl, hF160.cell 52 rfl rfl, hF160.cell 53 rfl rfl, hF160.cell 54 rfl rfl, hF160.cell 55 rfl rfl, hF160.cell 56 rfl rfl⟩
        refine pm_iconst (v := 0) hC dX11_scene_57 ?_
        refine pm_istore_n (lv' := [(2, (0, 0)), (1, (3, 45)), (0, (3, 0))]) hC dX11_scene_58 (by decide) rfl ?_
        obtain ⟨B191, hB192, hT⟩ := pf_loop hT
        have L194 : ∀ (N196 : Nat) (x174 : Int) (V176 : pm_M), (0 ≤ x174 ∧ x174 ≤ 3) → pm_ok 0 90 V176 → pm_ff [3, 5, 6, 7, 8, 45, 46, 47, 48, 49, 50, 51, 52, 53, 54, 55, 56, 69, 70, 71] [(0, 8), (0, 9), (1, 1), (4, 1), (4, 6), (15, 0), (25, 0), (35, 0)] V0 V176 → V176 0 1 = 69 → V176 51 0 = y146 → V176 0 0 = 1 → V176 0 3 = 4 → V176 51 8 = y153 → V176 0 8 = 51 → V176 0 9 = 45 → V176 1 1 = 0 → V176 4 1 = 1 → V176 4 6 = 0 → ((1 ≤ x174 → V176 15 0 = 0) ∧ (2 ≤ x174 → V176 25 0 = 0) ∧ (3 ≤ x174 → V176 35 0 = 0)) → (sq_keep 51 V176 V136) → F_X11_scene  V0 = pf_val ((0 : Int), V0) B191 (x174, V176) → (Int.toNat (3 - x174)) = N196 → pm_J X 59 [(0, (3, 0)), (1, (3, 45)), (2, (0, x174))] [] 118 V176 := by
          intro N196
          induction N196 using Nat.strongRecOn with
          | _ N196 ih197 =>
          intro x174 V176 b175 hV177 hF178 e179 e180 e181 e182 e183 e184 e185 e186 e187 e188 hx189 hx190 hT hm195
          have hb193 := congrFun hB192 (x174, V176)
          refine pm_iload_n hC 2 dX11_scene_59 rfl ?_
          refine pm_iconst (v := 3) hC dX11_scene_60 ?_
          refine pm_icmp_ge (tgt := 80) hC ⟨by omega, by omega⟩ ⟨by decide, by decide⟩ dX11_scene_61 (by decide) (fun c198 => ?_) (fun c198 => ?_)
          · skip
            replace hb193 := hb193.trans (if_pos c198)
            refine pm_aload_n hC 0 (by decide) dX11_scene_80 rfl ?_
            refine pm_getf (v := 51) hC 0 fl_X11_35 rfl rfl (by decide) rfl e184 dX11_scene_81 ?_
            refine pm_getf (v := y146) hC 51 fl_X11_136 rfl rfl (by decide) rfl e180 dX11_scene_84 ?_
            have hT := hT.trans (pf_val_inr hb193)
            exact pm_iret hC hR pm_nar0 ⟨y146, rfl, ⟨by omega, by omega⟩, hV177, hF178, (fun q => absurd (((hF141 0 9 (by decide) (by decide)).symm.trans e145).symm.trans q) (by decide)), (fun _ => ⟨y138, V136, hE142, Or.inl ⟨by omega, by omega, (show V176 1 1 = 0 from e186), (show y146 = V136 51 0 from e147.symm), (show V176 0 8 = 51 from e184), ((show V176 0 9 = 45 from e185).trans ((hF141 0 8 (by decide) (by decide)).symm.trans e150).symm), (show V176 4 1 = 1 from e187), (show V176 4 6 = 0 from e188), (hx189.1 (by omega)), (hx189.2.1 (by omega)), (hx189.2.2 (by omega)), hx190⟩⟩), hT⟩ dX11_scene_87
          · skip
            replace hb193 := hb193.trans (if_neg (Int.not_le.mpr c198))
            refine pm_aload_n hC 0 (by decide) dX11_scene_64 rfl ?_
            have e199 : V176 0 4 = 14 := hV177.one 0 4 (by decide) (by decide) rfl
            refine pm_getf (v := 14) hC 0 fl_X11_28 rfl rfl (by decide) rfl e199 dX11_scene_65 ?_
            refine pm_iload_n hC 2 dX11_scene_68 rfl ?_
            rcases (show x174 = (0 : Int) ∨ x174 = (1 : Int) ∨ x174 = (2 : Int) by omega) with hk | hk | hk
            · skip
              have e200 : V176 14 (x174 : Int).toNat = 15 := by rw [hk]; exact hV177.one 14 0 (by decide) (by decide) rfl
              replace hb193 := hb193.trans (if_pos hk)
              refine pm_aaload (len := 3) (v := 15) hC 14 rfl rfl (by decide) ⟨by omega, by omega⟩ (by decide) e200 dX11_scene_69 ?_
              refine pm_iconst (v := 0) hC dX11_scene_70 ?_
              refine pm_putf hC 15 fl_X11_132 rfl rfl rfl (by decide) rfl (by show _ = (0 : Int) ∨ _ = (1 : Int); omega) dX11_scene_71 ?_
              obtain ⟨x201, ei202⟩ : ∃ y : Int, x174 + 1 = y := ⟨_, rfl⟩
              replace hb193 := hb193.trans (pf_let_eq ei202)
              refine pm_iinc (y := x201) (lv' := [(2, (0, x201)), (0, (3, 0)), (1, (3, 45))]) hC 2 dX11_scene_74 (by decide) rfl ei202 rfl ?_
              refine pm_goto (tgt := 59) hC dX11_scene_77 (by decide) ?_
              refine pm_lvsub [1, 2, 0] (lv' := [(0, (3, 0)), (1, (3, 45)), (2, (0, x201))]) rfl ?_
              exact ih197 _ (by omega) x201 (pm_up V176 15 0 0) ⟨by omega, by omega⟩ (hV177.put 15 0 (x := 0) (lo := 0) (hi := 1) rfl ⟨by decide, by decide⟩) (hF178.upf 15 0 0 rfl) e179 e180 e181 e182 e183 e184 e185 e186 e187 e188 (by refine ⟨fun h => ?_, fun h => ?_, fun h => ?_⟩ <;> first | (exfalso; omega) | rfl | exact hx189.1 (by omega) | exact hx189.2.1 (by omega) | exact hx189.2.2 (by omega)) (by exact hx190) (hT.trans (pf_val_inl hb193)) rfl
            · skip
              have e203 : V176 14 (x174 : Int).toNat = 25 := by rw [hk]; exact hV177.one 14 1 (by decide) (by decide) rfl
              replace hb193 := hb193.trans (if_neg (by omega))
              replace hb193 := hb193.trans (if_pos hk)
              refine pm_aaload (len := 3) (v := 25) hC 14 rfl rfl (by decide) ⟨by omega, by omega⟩ (by decide) e203 dX11_scene_69 ?_
              refine pm_iconst (v := 0) hC dX11_scene_70 ?_
              refine pm_putf hC 25 fl_X11_132 rfl rfl rfl (by decide) rfl (by show _ = (0 : Int) ∨ _ = (1 : Int); omega) dX11_scene_71 ?_
              obtain ⟨x204, ei205⟩ : ∃ y : Int, x174 + 1 = y := ⟨_, rfl⟩
              replace hb193 := hb193.trans (pf_let_eq ei205)
              refine pm_iinc (y := x204) (lv' := [(2, (0, x204)), (0, (3, 0)), (1, (3, 45))]) hC 2 dX11_scene_74 (by decide) rfl ei205 rfl ?_
              refine pm_goto (tgt := 59) hC dX11_scene_77 (by decide) ?_
              refine pm_lvsub [1, 2, 0] (lv' := [(0, (3, 0)), (1, (3, 45)), (2, (0, x204))]) rfl ?_
              exact ih197 _ (by omega) x204 (pm_up V176 25 0 0) ⟨by omega, by omega⟩ (hV177.put 25 0 (x := 0) (lo := 0) (hi := 1) rfl ⟨by decide, by decide⟩) (hF178.upf 25 0 0 rfl) e179 e180 e181 e182 e183 e184 e185 e186 e187 e188 (by refine ⟨fun h => ?_, fun h => ?_, fun h => ?_⟩ <;> first | (exfalso; omega) | rfl | exact hx189.1 (by omega) | exact hx189.2.1 (by omega) | exact hx189.2.2 (by omega)) (by exact hx190) (hT.trans (pf_val_inl hb193)) rfl
            · skip
              have e206 : V176 14 (x174 : Int).toNat = 35 := by rw [hk]; exact hV177.one 14 2 (by decide) (by decide) rfl
              replace hb193 := hb193.trans (if_neg (by omega))
              replace hb193 := hb193.trans (if_neg (by omega))
              refine pm_aaload (len := 3) (v := 35) hC 14 rfl rfl (by decide) ⟨by omega, by omega⟩ (by decide) e206 dX11_scene_69 ?_
              refine pm_iconst (v := 0) hC dX11_scene_70 ?_
              refine pm_putf hC 35 fl_X11_132 rfl rfl rfl (by decide) rfl (by show _ = (0 : Int) ∨ _ = (1 : Int); omega) dX11_scene_71 ?_
              obtain ⟨x207, ei208⟩ : ∃ y : Int, x174 + 1 = y := ⟨_, rfl⟩
              replace hb193 := hb193.trans (pf_let_eq ei208)
              refine pm_iinc (y := x207) (lv' := [(2, (0, x207)), (0, (3, 0)), (1, (3, 45))]) hC 2 dX11_scene_74 (by decide) rfl ei208 rfl ?_
              refine pm_goto (tgt := 59) hC dX11_scene_77 (by decide) ?_
              refine pm_lvsub [1, 2, 0] (lv' := [(0, (3, 0)), (1, (3, 45)), (2, (0, x207))]) rfl ?_
              exact ih197 _ (by omega) x207 (pm_up V176 35 0 0) ⟨by omega, by omega⟩ (hV177.put 35 0 (x := 0) (lo := 0) (hi := 1) rfl ⟨by decide, by decide⟩) (hF178.upf 35 0 0 rfl) e179 e180 e181 e182 e183 e184 e185 e186 e187 e188 (by refine ⟨fun h => ?_, fun h => ?_, fun h => ?_⟩ <;> first | (exfalso; omega) | rfl | exact hx189.1 (by omega) | exact hx189.2.1 (by omega) | exact hx189.2.2 (by omega)) (by exact hx190) (hT.trans (pf_val_inl hb193)) rfl
        refine pm_lvsub [2, 1, 0] (lv' := [(0, (3, 0)), (1, (3, 45)), (2, (0, 0))]) rfl ?_
        exact L194 _ 0 V157 ⟨by decide, by decide⟩ hV159 hF164 e165 e166 e167 e168 e169 e170 e171 e172 hxp161 hxp162 ⟨fun h => absurd h (by omega), fun h => absurd h (by omega), fun h => absurd h (by omega)⟩ hkp173 hT rfl
      · skip
        replace hT := hT.trans (if_neg (by rw [e150]; decide))
        refine pm_getf (v := 51) hC 0 fl_X11_35 rfl rfl (by decide) rfl e150 dX11_scene_18 ?_
        refine pm_astore_n (lv' := [(1, (3, 51)), (0, (3, 0))]) hC (by decide) dX11_scene_21 (by decide) rfl ?_
        refine pm_aload_n hC 1 (by decide) dX11_scene_22 rfl ?_
        refine pm_aload_n hC 1 (by decide) dX11_scene_23 rfl ?_
        refine pm_getf (v := 51) hC 0 fl_X11_39 rfl rfl (by decide) rfl e145 dX11_scene_24 ?_
        refine pm_putf hC 0 fl_X11_35 rfl rfl rfl (by decide) rfl trivial dX11_scene_27 ?_
        refine pm_aload_n hC 1 (by decide) dX11_scene_30 rfl ?_
        refine pm_aload_n hC 0 (by decide) dX11_scene_31 rfl ?_
        refine pm_putf hC 0 fl_X11_39 rfl rfl rfl (by decide) rfl trivial dX11_scene_32 ?_
        refine pm_aload_n hC 1 (by decide) dX11_scene_35 rfl ?_
        have e209 : V136 0 0 = 1 := hV140.one 0 0 (by decide) (by decide) rfl
        refine pm_getf (v := 1) hC 0 fl_X11_10 rfl rfl (by decide) rfl e209 dX11_scene_36 ?_
        refine pm_iconst (v := 0) hC dX11_scene_39 ?_
        refine pm_putf hC 1 fl_X11_111 rfl rfl rfl (by decide) rfl trivial dX11_scene_40 ?_
        refine pm_aload_n hC 1 (by decide) dX11_scene_43 rfl ?_
        have e210 : V136 0 3 = 4 := hV140.one 0 3 (by decide) (by decide) rfl
        refine pm_getf (v := 4) hC 0 fl_X11_24 rfl rfl (by decide) rfl e210 dX11_scene_44 ?_
        refine pm_aload_n hC 1 (by decide) dX11_scene_47 rfl ?_
        refine pm_getf (v := 51) hC 0 fl_X11_35 rfl rfl (by decide) rfl rfl dX11_scene_48 ?_
        obtain ⟨y211, e212⟩ : ∃ y, V136 51 8 = y := ⟨_, rfl⟩
        have b213 := hV140.get 51 8 (lo := 0) (hi := 16) (by decide) (by decide) rfl
        rw [e212] at b213
        replace hT := hT.trans (pf_let_eq e212)
        refine pm_getf (v := y211) hC 51 fl_X11_126 rfl rfl (by decide) rfl e212 dX11_scene_51 ?_
        refine pm_callV (ci := 7) (as := [(0, y211)]) (st := []) hC 4 (fD_X7_begin_4 y211 ⟨by omega, by omega⟩) lm_X11_129 li_X7_begin (by decide) (by decide) rfl rfl rfl (by decide) rfl rfl (Nat.le_of_ble_eq_true rfl) ⟨Nat.le_refl _, Or.inl rfl⟩ dX11_scene_54 ⟨rfl, (((hV140.put2 0 8 (x := 51) (lo := 45) (hi := 51) rfl ⟨by omega, by decide⟩).put2 0 9 (x := 51) (lo := 45) (hi := 51) rfl ⟨by omega, by decide⟩).put 1 1 (x := 0) (lo := 0) (hi := 500) rfl ⟨by decide, by decide⟩)⟩ (fun r214 V215 hp216 => ?_)
        obtain ⟨rfl, hV217, hF218, hxp219, hxp220, hE221⟩ := hp216
        replace hT := hT.trans (pf_call_eq hE221)
        change pm_J X 57 [(1, (3, 51)), (0, (3, 0))] [] 118 V215
        have hF222 := pm_ff.tr (((hF143.upf 0 8 51 rfl).upf 0 9 51 rfl).upf 1 1 0 rfl) hF218 (by decide) (by decide)
        have e223 : V215 0 1 = 69 := by rw [hF218 0 1 (by decide) (by decide)]; exact e144
        have e224 : V215 51 0 = y146 := by rw [hF218 51 0 (by decide) (by decide)]; exact e147
        have e225 : V215 0 0 = 1 := by rw [hF218 0 0 (by decide) (by decide)]; exact e209
        have e226 : V215 0 3 = 4 := by rw [hF218 0 3 (by decide) (by decide)]; exact e210
        have e227 : V215 51 8 = y211 := by rw [hF218 51 8 (by decide) (by decide)]; exact e212
        have e228 : V215 0 8 = 51 := by rw [hF218 0 8 (by decide) (by decide)]; rfl
        have e229 : V215 0 9 = 51 := by rw [hF218 0 9 (by decide) (by decide)]; rfl
        have e230 : V215 1 1 = 0 := by rw [hF218 1 1 (by decide) (by decide)]; rfl
        have hkp231 : sq_keep 51 V215 V136 := ⟨hF218.cell 51 rfl rfl, hF218.cell 52 rfl rfl, hF218.cell 53 rfl rfl, hF218.cell 54 rfl rfl, hF218.cell 55 rfl rfl, hF218.cell 56 rfl rfl⟩
        refine pm_iconst (v := 0) hC dX11_scene_57 ?_
        refine pm_istore_n (lv' := [(2, (0, 0)), (1, (3, 51)), (0, (3, 0))]) hC dX11_scene_58 (by decide) rfl ?_
        obtain ⟨B249, hB250, hT⟩ := pf_loop hT
        have L252 : ∀ (N254 : Nat) (x232 : Int) (V234 : pm_M), (0 ≤ x232 ∧ x232 ≤ 3) → pm_ok 0 90 V234 → pm_ff [3, 5, 6, 7, 8, 45, 46, 47, 48, 49, 50, 51, 52, 53, 54, 55, 56, 69, 70, 71] [(0, 8), (0, 9), (1, 1), (4, 1), (4, 6), (15, 0), (25, 0), (35, 0)] V0 V234 → V234 0 1 = 69 → V234 51 0 = y146 → V234 0 0 = 1 → V234 0 3 = 4 → V234 51 8 = y211 → V234 0 8 = 51 → V234 0 9 = 51 → V234 1 1 = 0 → V234 4 1 = 1 → V234 4 6 = 0 → ((1 ≤ x232 → V234 15 0 = 0) ∧ (2 ≤ x232 → V234 25 0 = 0) ∧ (3 ≤ x232 → V234 35 0 = 0)) → (sq_keep 51 V234 V136) → F_X11_scene  V0 = pf_val ((0 : Int), V0) B249 (x232, V234) → (Int.toNat (3 - x232)) = N254 → pm_J X 59 [(0, (3, 0)), (1, (3, 51)), (2, (0, x232))] [] 118 V234 := by
          intro N254
          induction N254 using Nat.strongRecOn with
          | _ N254 ih255 =>
          intro x232 V234 b233 hV235 hF236 e237 e238 e239 e240 e241 e242 e243 e244 e245 e246 hx247 hx248 hT hm253
          have hb251 := congrFun hB250 (x232, V234)
          refine pm_iload_n hC 2 dX11_scene_59 rfl ?_
          refine pm_iconst (v := 3) hC dX11_scene_60 ?_
          refine pm_icmp_ge (tgt := 80) hC ⟨by omega, by omega⟩ ⟨by decide, by decide⟩ dX11_scene_61 (by decide) (fun c256 => ?_) (fun c256 => ?_)
          · skip
            replace hb251 := hb251.trans (if_pos c256)
            refine pm_aload_n hC 0 (by decide) dX11_scene_80 rfl ?_
            refine pm_getf (v := 51) hC 0 fl_X11_35 rfl rfl (by decide) rfl e242 dX11_scene_81 ?_
            refine pm_getf (v := y146) hC 51 fl_X11_136 rfl rfl (by decide) rfl e238 dX11_scene_84 ?_
            have hT := hT.trans (pf_val_inr hb251)
            exact pm_iret hC hR pm_nar0 ⟨y146, rfl, ⟨by omega, by omega⟩, hV235, hF236, (fun q => absurd (((hF141 0 9 (by decide) (by decide)).symm.trans e145).symm.trans q) (by decide)), (fun _ => ⟨y138, V136, hE142, Or.inl ⟨by omega, by omega, (show V234 1 1 = 0 from e244), (show y146 = V136 51 0 from e147.symm), (show V234 0 8 = 51 from e242), ((show V234 0 9 = 51 from e243).trans ((hF141 0 8 (by decide) (by decide)).symm.trans e150).symm), (show V234 4 1 = 1 from e245), (show V234 4 6 = 0 from e246), (hx247.1 (by omega)), (hx247.2.1 (by omega)), (hx247.2.2 (by omega)), hx248⟩⟩), hT⟩ dX11_scene_87
          · skip
            replace hb251 := hb251.trans (if_neg (Int.not_le.mpr c256))
            refine pm_aload_n hC 0 (by decide) dX11_scene_64 rfl ?_
            have e257 : V234 0 4 = 14 := hV235.one 0 4 (by decide) (by decide) rfl
            refine pm_getf (v := 14) hC 0 fl_X11_28 rfl rfl (by decide) rfl e257 dX11_scene_65 ?_
            refine pm_iload_n hC 2 dX11_scene_68 rfl ?_
            rcases (show x232 = (0 : Int) ∨ x232 = (1 : Int) ∨ x232 = (2 : Int) by omega) with hk | hk | hk
            · skip
              have e258 : V234 14 (x232 : Int).toNat = 15 := by rw [hk]; exact hV235.one 14 0 (by decide) (by decide) rfl
              replace hb251 := hb251.trans (if_pos hk)
              refine pm_aaload (len := 3) (v := 15) hC 14 rfl rfl (by decide) ⟨by omega, by omega⟩ (by decide) e258 dX11_scene_69 ?_
              refine pm_iconst (v := 0) hC dX11_scene_70 ?_
              refine pm_putf hC 15 fl_X11_132 rfl rfl rfl (by decide) rfl (by show _ = (0 : Int) ∨ _ = (1 : Int); omega) dX11_scene_71 ?_
              obtain ⟨x259, ei260⟩ : ∃ y : Int, x232 + 1 = y := ⟨_, rfl⟩
              replace hb251 := hb251.trans (pf_let_eq ei260)
              refine pm_iinc (y := x259) (lv' := [(2, (0, x259)), (0, (3, 0)), (1, (3, 51))]) hC 2 dX11_scene_74 (by decide) rfl ei260 rfl ?_
              refine pm_goto (tgt := 59) hC dX11_scene_77 (by decide) ?_
              refine pm_lvsub [1, 2, 0] (lv' := [(0, (3, 0)), (1, (3, 51)), (2, (0, x259))]) rfl ?_
              exact ih255 _ (by omega) x259 (pm_up V234 15 0 0) ⟨by omega, by omega⟩ (hV235.put 15 0 (x := 0) (lo := 0) (hi := 1) rfl ⟨by decide, by decide⟩) (hF236.upf 15 0 0 rfl) e237 e238 e239 e240 e241 e242 e243 e244 e245 e246 (by refine ⟨fun h => ?_, fun h => ?_, fun h => ?_⟩ <;> first | (exfalso; omega) | rfl | exact hx247.1 (by omega) | exact hx247.2.1 (by omega) | exact hx247.2.2 (by omega)) (by exact hx248) (hT.trans (pf_val_inl hb251)) rfl
            · skip
              have e261 : V234 14 (x232 : Int).toNat = 25 := by rw [hk]; exact hV235.one 14 1 (by decide) (by decide) rfl
              replace hb251 := hb251.trans (if_neg (by omega))
              replace hb251 := hb251.trans (if_pos hk)
              refine pm_aaload (len := 3) (v := 25) hC 14 rfl rfl (by decide) ⟨by omega, by omega⟩ (by decide) e261 dX11_scene_69 ?_
              refine pm_iconst (v := 0) hC dX11_scene_70 ?_
              refine pm_putf hC 25 fl_X11_132 rfl rfl rfl (by decide) rfl (by show _ = (0 : Int) ∨ _ = (1 : Int); omega) dX11_scene_71 ?_
              obtain ⟨x262, ei263⟩ : ∃ y : Int, x232 + 1 = y := ⟨_, rfl⟩
              replace hb251 := hb251.trans (pf_let_eq ei263)
              refine pm_iinc (y := x262) (lv' := [(2, (0, x262)), (0, (3, 0)), (1, (3, 51))]) hC 2 dX11_scene_74 (by decide) rfl ei263 rfl ?_
              refine pm_goto (tgt := 59) hC dX11_scene_77 (by decide) ?_
              refine pm_lvsub [1, 2, 0] (lv' := [(0, (3, 0)), (1, (3, 51)), (2, (0, x262))]) rfl ?_
              exact ih255 _ (by omega) x262 (pm_up V234 25 0 0) ⟨by omega, by omega⟩ (hV235.put 25 0 (x := 0) (lo := 0) (hi := 1) rfl ⟨by decide, by decide⟩) (hF236.upf 25 0 0 rfl) e237 e238 e239 e240 e241 e242 e243 e244 e245 e246 (by refine ⟨fun h => ?_, fun h => ?_, fun h => ?_⟩ <;> first | (exfalso; omega) | rfl | exact hx247.1 (by omega) | exact hx247.2.1 (by omega) | exact hx247.2.2 (by omega)) (by exact hx248) (hT.trans (pf_val_inl hb251)) rfl
            · skip
              have e264 : V234 14 (x232 : Int).toNat = 35 := by rw [hk]; exact hV235.one 14 2 (by decide) (by decide) rfl
              replace hb251 := hb251.trans (if_neg (by omega))
              replace hb251 := hb251.trans (if_neg (by omega))
              refine pm_aaload (len := 3) (v := 35) hC 14 rfl rfl (by decide) ⟨by omega, by omega⟩ (by decide) e264 dX11_scene_69 ?_
              refine pm_iconst (v := 0) hC dX11_scene_70 ?_
              refine pm_putf hC 35 fl_X11_132 rfl rfl rfl (by decide) rfl (by show _ = (0 : Int) ∨ _ = (1 : Int); omega) dX11_scene_71 ?_
              obtain ⟨x265, ei266⟩ : ∃ y : Int, x232 + 1 = y := ⟨_, rfl⟩
              replace hb251 := hb251.trans (pf_let_eq ei266)
              refine pm_iinc (y := x265) (lv' := [(2, (0, x265)), (0, (3, 0)), (1, (3, 51))]) hC 2 dX11_scene_74 (by decide) rfl ei266 rfl ?_
              refine pm_goto (tgt := 59) hC dX11_scene_77 (by decide) ?_
              refine pm_lvsub [1, 2, 0] (lv' := [(0, (3, 0)), (1, (3, 51)), (2, (0, x265))]) rfl ?_
              exact ih255 _ (by omega) x265 (pm_up V234 35 0 0) ⟨by omega, by omega⟩ (hV235.put 35 0 (x := 0) (lo := 0) (hi := 1) rfl ⟨by decide, by decide⟩) (hF236.upf 35 0 0 rfl) e237 e238 e239 e240 e241 e242 e243 e244 e245 e246 (by refine ⟨fun h => ?_, fun h => ?_, fun h => ?_⟩ <;> first | (exfalso; omega) | rfl | exact hx247.1 (by omega) | exact hx247.2.1 (by omega) | exact hx247.2.2 (by omega)) (by exact hx248) (hT.trans (pf_val_inl hb251)) rfl
        refine pm_lvsub [2, 1, 0] (lv' := [(0, (3, 0)), (1, (3, 51)), (2, (0, 0))]) rfl ?_
        exact L252 _ 0 V215 ⟨by decide, by decide⟩ hV217 hF222 e223 e224 e225 e226 e227 e228 e229 e230 hxp219 hxp220 ⟨fun h => absurd h (by omega), fun h => absurd h (by omega), fun h => absurd h (by omega)⟩ hkp231 hT rfl
    · skip
      replace hT := hT.trans (if_neg c149)
      refine pm_iconst (v := (-1)) hC dX11_scene_15 ?_
      exact pm_iret hC hR pm_nar0 ⟨(-1), rfl, ⟨by omega, by omega⟩, hV140, hF143, (fun q => absurd (((hF141 0 9 (by decide) (by decide)).symm.trans e145).symm.trans q) (by decide)), (fun _ => ⟨y138, V136, hE142, Or.inr ⟨by omega, rfl, rfl, hF141⟩⟩), hT⟩ dX11_scene_16
set_option maxHeartbeats 4000000 in
set_option maxRecDepth 100000 in
theorem fD_X11_rules_0  : pm_K 32 yX11_rules cX11_rules 2 (some .int) (fun av V => av = [(3, 0)] ∧ pm_ok 0 90 V) (fun _ V r V' => ∃ y, r = some (0, y) ∧ ((-1) ≤ y ∧ y ≤ 10) ∧ pm_ok 0 90 V' ∧ pm_ff [3, 57, 58, 59, 60, 61, 63, 64, 65, 66, 67, 72] [(0, 10), (0, 11), (1, 1)] V V' ∧ (V 0 11 = 57 → ∃ z W, F_X3_read 57 V = (z, W) ∧ ((z = -1 ∧ 0 ≤ y ∧ V' 1 1 = 0 ∧ y = W 57 0 ∧ V' 0 10 = 57 ∧ V' 0 11 = V 0 10 ∧ V' 57 0 = W 57 0) ∨ (z ≠ -1 ∧ y = -1 ∧ V' = W ∧ pm_ff [3, 57, 58, 59, 60, 61, 72] [] V V'))) ∧ (V 0 11 = 63 → ∃ z W, F_X3_read 63 V = (z, W) ∧ ((z = -1 ∧ 0 ≤ y ∧ V' 1 1 = 0 ∧ y = W 63 0 ∧ V' 0 10 = 63 ∧ V' 0 11 = V 0 10 ∧ V' 63 0 = W 63 0) ∨ (z ≠ -1 ∧ y = -1 ∧ V' = W ∧ pm_ff [3, 63, 64, 65, 66, 67, 72] [] V V'))) ∧ F_X11_rules  V = (y, V')) := by
  refine pm_MT.of (by decide) ⟨Nat.le_refl _, by decide⟩ (fun av V h => by rw [h.1]; exact (by decide : pm_words [(3, 0)] ≤ 2)) ?_
  rintro X av V0 hC - hR ⟨rfl, hV0⟩
  change pm_J X 0 [(0, (3, 0))] [] 118 V0
  have hT := F_X11_rules_eq  V0
  refine pm_aload_n hC 0 (by decide) dX11_rules_0 rfl ?_
  have e1 : V0 0 2 = 72 := hV0.one 0 2 (by decide) (by decide) rfl
  refine pm_getf (v := 72) hC 0 fl_X11_66 rfl rfl (by decide) rfl e1 dX11_rules_1 ?_
  refine pm_aload_n hC 0 (by decide) dX11_rules_4 rfl ?_
  rcases hV0.get2 0 11 (lo := 57) (hi := 63) (by decide) (by decide) rfl with e2 | e2
  · skip
    replace hT := hT.trans (if_pos e2)
    refine pm_getf (v := 57) hC 0 fl_X11_49 rfl rfl (by decide) rfl e2 dX11_rules_5 ?_
    refine pm_callV (ci := 3) (as := [(3, 57)]) (st := []) hC 72 fC_X3_read_57 lm_X11_122 li_X3_read (by decide) (by decide) rfl rfl rfl (by decide) rfl rfl (Nat.le_of_ble_eq_true rfl) ⟨Nat.le_refl _, Or.inl rfl⟩ dX11_rules_8 ⟨rfl, hV0⟩ (fun r3 V4 hp5 => ?_)
    obtain ⟨y6, rfl, b7, hV8, hF9, hE10⟩ := hp5
    replace hF9 := pm_fr.ff hF9
    replace hT := hT.trans (pf_call_eq hE10)
    change pm_J X 11 [(0, (3, 0))] [(0, y6)] 118 V4
    have hF11 := pm_ff.tr (pm_ff.rf (cs := [3, 57, 58, 59, 60, 61, 63, 64, 65, 66, 67, 72]) (fs := [(0, 10), (0, 11), (1, 1)]) (V := V0)) hF9 (by decide) (by decide)
    have e12 : V4 0 2 = 72 := by rw [hF9 0 2 (by decide) (by decide)]; exact e1
    have e13 : V4 0 11 = 57 := by rw [hF9 0 11 (by decide) (by decide)]; exact e2
    obtain ⟨y14, e15⟩ : ∃ y, V4 57 0 = y := ⟨_, rfl⟩
    have b16 := hV8.get 57 0 (lo := 0) (hi := 10) (by decide) (by decide) rfl
    rw [e15] at b16
    replace hT := hT.trans (pf_let_eq e15)
    refine pm_iconst (v := (-1)) hC dX11_rules_11 ?_
    refine pm_icmp_eq (tgt := 17) hC ⟨by omega, by omega⟩ ⟨by decide, by decide⟩ dX11_rules_12 (by decide) (fun c17 => ?_) (fun c17 => ?_)
    · skip
      replace hT := hT.trans (if_pos c17)
      refine pm_aload_n hC 0 (by decide) dX11_rules_17 rfl ?_
      rcases hV8.get2 0 10 (lo := 57) (hi := 63) (by decide) (by decide) rfl with e18 | e18
      · skip
        replace hT := hT.trans (if_pos e18)
        refine pm_getf (v := 57) hC 0 fl_X11_45 rfl rfl (by decide) rfl e18 dX11_rules_18 ?_
        refine pm_astore_n (lv' := [(1, (3, 57)), (0, (3, 0))]) hC (by decide) dX11_rules_21 (by decide) rfl ?_
        refine pm_aload_n hC 1 (by decide) dX11_rules_22 rfl ?_
        refine pm_aload_n hC 1 (by decide) dX11_rules_23 rfl ?_
        refine pm_getf (v := 57) hC 0 fl_X11_49 rfl rfl (by decide) rfl e13 dX11_rules_24 ?_
        refine pm_putf hC 0 fl_X11_45 rfl rfl rfl (by decide) rfl trivial dX11_rules_27 ?_
        refine pm_aload_n hC 1 (by decide) dX11_rules_30 rfl ?_
        refine pm_aload_n hC 0 (by decide) dX11_rules_31 rfl ?_
        refine pm_putf hC 0 fl_X11_49 rfl rfl rfl (by decide) rfl trivial dX11_rules_32 ?_
        refine pm_aload_n hC 1 (by decide) dX11_rules_35 rfl ?_
        have e19 : V4 0 0 = 1 := hV8.one 0 0 (by decide) (by decide) rfl
        refine pm_getf (v := 1) hC 0 fl_X11_10 rfl rfl (by decide) rfl e19 dX11_rules_36 ?_
        refine pm_iconst (v := 0) hC dX11_rules_39 ?_
        refine pm_putf hC 1 fl_X11_111 rfl rfl rfl (by decide) rfl trivial dX11_rules_40 ?_
        refine pm_aload_n hC 1 (by decide) dX11_rules_43 rfl ?_
        refine pm_getf (v := 57) hC 0 fl_X11_45 rfl rfl (by decide) rfl rfl dX11_rules_44 ?_
        refine pm_getf (v := y14) hC 57 fl_X11_139 rfl rfl (by decide) rfl e15 dX11_rules_47 ?_
        exact pm_iret hC hR pm_nar0 ⟨y14, rfl, ⟨by omega, by omega⟩, (((hV8.put2 0 10 (x := 57) (lo := 57) (hi := 63) rfl ⟨by omega, by decide⟩).put2 0 11 (x := 57) (lo := 57) (hi := 63) rfl ⟨by omega, by decide⟩).put 1 1 (x := 0) (lo := 0) (hi := 500) rfl ⟨by decide, by decide⟩), (((hF11.upf 0 10 57 rfl).upf 0 11 57 rfl).upf 1 1 0 rfl), (fun _ => ⟨y6, V4, hE10, Or.inl ⟨by omega, by omega, (show (pm_up (pm_up (pm_up V4 0 10 57) 0 11 57) 1 1 0) 1 1 = 0 from rfl), (show y14 = V4 57 0 from e15.symm), (show (pm_up (pm_up (pm_up V4 0 10 57) 0 11 57) 1 1 0) 0 10 = 57 from rfl), ((show (pm_up (pm_up (pm_up V4 0 10 57) 0 11 57) 1 1 0) 0 11 = 57 from rfl).trans ((hF9 0 10 (by decide) (by decide)).symm.trans e18).symm), ((show (pm_up (pm_up (pm_up V4 0 10 57) 0 11 57) 1 1 0) 57 0 = y14 from e15).trans e15.symm)⟩⟩), (fun q => absurd (((hF9 0 11 (by decide) (by decide)).symm.trans e13).symm.trans q) (by decide)), hT⟩ dX11_rules_50
      · skip
        replace hT := hT.trans (if_neg (by rw [e18]; decide))
        refine pm_getf (v := 63) hC 0 fl_X11_45 rfl rfl (by decide) rfl e18 dX11_rules_18 ?_
        refine pm_astore_n (lv' := [(1, (3, 63)), (0, (3, 0))]) hC (by decide) dX11_rules_21 (by decide) rfl ?_
        refine pm_aload_n hC 1 (by decide) dX11_rules_22 rfl ?_
        refine pm_aload_n hC 1 (by decide) dX11_rules_23 rfl ?_
        refine pm_getf (v := 57) hC 0 fl_X11_49 rfl rfl (by decide) rfl e13 dX11_rules_24 ?_
        refine pm_putf hC 0 fl_X11_45 rfl rfl rfl (by decide) rfl trivial dX11_rules_27 ?_
        refine pm_aload_n hC 1 (by decide) dX11_rules_30 rfl ?_
        refine pm_aload_n hC 0 (by decide) dX11_rules_31 rfl ?_
        refine pm_putf hC 0 fl_X11_49 rfl rfl rfl (by decide) rfl trivial dX11_rules_32 ?_
        refine pm_aload_n hC 1 (by decide) dX11_rules_35 rfl ?_
        have e20 : V4 0 0 = 1 := hV8.one 0 0 (by decide) (by decide) rfl
        refine pm_getf (v := 1) hC 0 fl_X11_10 rfl rfl (by decide) rfl e20 dX11_rules_36 ?_
        refine pm_iconst (v := 0) hC dX11_rules_39 ?_
        refine pm_putf hC 1 fl_X11_111 rfl rfl rfl (by decide) rfl trivial dX11_rules_40 ?_
        refine pm_aload_n hC 1 (by decide) dX11_rules_43 rfl ?_
        refine pm_getf (v := 57) hC 0 fl_X11_45 rfl rfl (by decide) rfl rfl dX11_rules_44 ?_
        refine pm_getf (v := y14) hC 57 fl_X11_139 rfl rfl (by decide) rfl e15 dX11_rules_47 ?_
        exact pm_iret hC hR pm_nar0 ⟨y14, rfl, ⟨by omega, by omega⟩, (((hV8.put2 0 10 (x := 57) (lo := 57) (hi := 63) rfl ⟨by omega, by decide⟩).put2 0 11 (x := 63) (lo := 57) (hi := 63) rfl ⟨by omega, by decide⟩).put 1 1 (x := 0) (lo := 0) (hi := 500) rfl ⟨by decide, by decide⟩), (((hF11.upf 0 10 57 rfl).upf 0 11 63 rfl).upf 1 1 0 rfl), (fun _ => ⟨y6, V4, hE10, Or.inl ⟨by omega, by omega, (show (pm_up (pm_up (pm_up V4 0 10 57) 0 11 63) 1 1 0) 1 1 = 0 from rfl), (show y14 = V4 57 0 from e15.symm), (show (pm_up (pm_up (pm_up V4 0 10 57) 0 11 63) 1 1 0) 0 10 = 57 from rfl), ((show (pm_up (pm_up (pm_up V4 0 10 57) 0 11 63) 1 1 0) 0 11 = 63 from rfl).trans ((hF9 0 10 (by decide) (by decide)).symm.trans e18).symm), ((show (pm_up (pm_up (pm_up V4 0 10 57) 0 11 63) 1 1 0) 57 0 = y14 from e15).trans e15.symm)⟩⟩), (fun q => absurd (((hF9 0 11 (by decide) (by decide)).symm.trans e13).symm.trans q) (by decide)), hT⟩ dX11_rules_50
    · skip
      replace hT := hT.trans (if_neg c17)
      refine pm_iconst (v := (-1)) hC dX11_rules_15 ?_
      exact pm_iret hC hR pm_nar0 ⟨(-1), rfl, ⟨by omega, by omega⟩, hV8, hF11, (fun _ => ⟨y6, V4, hE10, Or.inr ⟨by omega, rfl, rfl, hF9⟩⟩), (fun q => absurd (((hF9 0 11 (by decide) (by decide)).symm.trans e13).symm.trans q) (by decide)), hT⟩ dX11_rules_16
  · skip
    replace hT := hT.trans (if_neg (by rw [e2]; decide))
    refine pm_getf (v := 63) hC 0 fl_X11_49 rfl rfl (by decide) rfl e2 dX11_rules_5 ?_
    refine pm_callV (ci := 3) (as := [(3, 63)]) (st := []) hC 72 fC_X3_read_63 lm_X11_122 li_X3_read (by decide) (by decide) rfl rfl rfl (by decide) rfl rfl (Nat.le_of_ble_eq_true rfl) ⟨Nat.le_refl _, Or.inl rfl⟩ dX11_rules_8 ⟨rfl, hV0⟩ (fun r21 V22 hp23 => ?_)
    obtain ⟨y24, rfl, b25, hV26, hF27, hE28⟩ := hp23
    replace hF27 := pm_fr.ff hF27
    replace hT := hT.trans (pf_call_eq hE28)
    change pm_J X 11 [(0, (3, 0))] [(0, y24)] 118 V22
    have hF29 := pm_ff.tr (pm_ff.rf (cs := [3, 57, 58, 59, 60, 61, 63, 64, 65, 66, 67, 72]) (fs := [(0, 10), (0, 11), (1, 1)]) (V := V0)) hF27 (by decide) (by decide)
    have e30 : V22 0 2 = 72 := by rw [hF27 0 2 (by decide) (by decide)]; exact e1
    have e31 : V22 0 11 = 63 := by rw [hF27 0 11 (by decide) (by decide)]; exact e2
    obtain ⟨y32, e33⟩ : ∃ y, V22 63 0 = y := ⟨_, rfl⟩
    have b34 := hV26.get 63 0 (lo := 0) (hi := 10) (by decide) (by decide) rfl
    rw [e33] at b34
    replace hT := hT.trans (pf_let_eq e33)
    refine pm_iconst (v := (-1)) hC dX11_rules_11 ?_
    refine pm_icmp_eq (tgt := 17) hC ⟨by omega, by omega⟩ ⟨by decide, by decide⟩ dX11_rules_12 (by decide) (fun c35 => ?_) (fun c35 => ?_)
    · skip
      replace hT := hT.trans (if_pos c35)
      refine pm_aload_n hC 0 (by decide) dX11_rules_17 rfl ?_
      rcases hV26.get2 0 10 (lo := 57) (hi := 63) (by decide) (by decide) rfl with e36 | e36
      · skip
        replace hT := hT.trans (if_pos e36)
        refine pm_getf (v := 57) hC 0 fl_X11_45 rfl rfl (by decide) rfl e36 dX11_rules_18 ?_
        refine pm_astore_n (lv' := [(1, (3, 57)), (0, (3, 0))]) hC (by decide) dX11_rules_21 (by decide) rfl ?_
        refine pm_aload_n hC 1 (by decide) dX11_rules_22 rfl ?_
        refine pm_aload_n hC 1 (by decide) dX11_rules_23 rfl ?_
        refine pm_getf (v := 63) hC 0 fl_X11_49 rfl rfl (by decide) rfl e31 dX11_rules_24 ?_
        refine pm_putf hC 0 fl_X11_45 rfl rfl rfl (by decide) rfl trivial dX11_rules_27 ?_
        refine pm_aload_n hC 1 (by decide) dX11_rules_30 rfl ?_
        refine pm_aload_n hC 0 (by decide) dX11_rules_31 rfl ?_
        refine pm_putf hC 0 fl_X11_49 rfl rfl rfl (by decide) rfl trivial dX11_rules_32 ?_
        refine pm_aload_n hC 1 (by decide) dX11_rules_35 rfl ?_
        have e37 : V22 0 0 = 1 := hV26.one 0 0 (by decide) (by decide) rfl
        refine pm_getf (v := 1) hC 0 fl_X11_10 rfl rfl (by decide) rfl e37 dX11_rules_36 ?_
        refine pm_iconst (v := 0) hC dX11_rules_39 ?_
        refine pm_putf hC 1 fl_X11_111 rfl rfl rfl (by decide) rfl trivial dX11_rules_40 ?_
        refine pm_aload_n hC 1 (by decide) dX11_rules_43 rfl ?_
        refine pm_getf (v := 63) hC 0 fl_X11_45 rfl rfl (by decide) rfl rfl dX11_rules_44 ?_
        refine pm_getf (v := y32) hC 63 fl_X11_139 rfl rfl (by decide) rfl e33 dX11_rules_47 ?_
        exact pm_iret hC hR pm_nar0 ⟨y32, rfl, ⟨by omega, by omega⟩, (((hV26.put2 0 10 (x := 63) (lo := 57) (hi := 63) rfl ⟨by omega, by decide⟩).put2 0 11 (x := 57) (lo := 57) (hi := 63) rfl ⟨by omega, by decide⟩).put 1 1 (x := 0) (lo := 0) (hi := 500) rfl ⟨by decide, by decide⟩), (((hF29.upf 0 10 63 rfl).upf 0 11 57 rfl).upf 1 1 0 rfl), (fun q => absurd (((hF27 0 11 (by decide) (by decide)).symm.trans e31).symm.trans q) (by decide)), (fun _ => ⟨y24, V22, hE28, Or.inl ⟨by omega, by omega, (show (pm_up (pm_up (pm_up V22 0 10 63) 0 11 57) 1 1 0) 1 1 = 0 from rfl), (show y32 = V22 63 0 from e33.symm), (show (pm_up (pm_up (pm_up V22 0 10 63) 0 11 57) 1 1 0) 0 10 = 63 from rfl), ((show (pm_up (pm_up (pm_up V22 0 10 63) 0 11 57) 1 1 0) 0 11 = 57 from rfl).trans ((hF27 0 10 (by decide) (by decide)).symm.trans e36).symm), ((show (pm_up (pm_up (pm_up V22 0 10 63) 0 11 57) 1 1 0) 63 0 = y32 from e33).trans e33.symm)⟩⟩), hT⟩ dX11_rules_50
      · skip
        replace hT := hT.trans (if_neg (by rw [e36]; decide))
        refine pm_getf (v := 63) hC 0 fl_X11_45 rfl rfl (by decide) rfl e36 dX11_rules_18 ?_
        refine pm_astore_n (lv' := [(1, (3, 63)), (0, (3, 0))]) hC (by decide) dX11_rules_21 (by decide) rfl ?_
        refine pm_aload_n hC 1 (by decide) dX11_rules_22 rfl ?_
        refine pm_aload_n hC 1 (by decide) dX11_rules_23 rfl ?_
        refine pm_getf (v := 63) hC 0 fl_X11_49 rfl rfl (by decide) rfl e31 dX11_rules_24 ?_
        refine pm_putf hC 0 fl_X11_45 rfl rfl rfl (by decide) rfl trivial dX11_rules_27 ?_
        refine pm_aload_n hC 1 (by decide) dX11_rules_30 rfl ?_
        refine pm_aload_n hC 0 (by decide) dX11_rules_31 rfl ?_
        refine pm_putf hC 0 fl_X11_49 rfl rfl rfl (by decide) rfl trivial dX11_rules_32 ?_
        refine pm_aload_n hC 1 (by decide) dX11_rules_35 rfl ?_
        have e38 : V22 0 0 = 1 := hV26.one 0 0 (by decide) (by decide) rfl
        refine pm_getf (v := 1) hC 0 fl_X11_10 rfl rfl (by decide) rfl e38 dX11_rules_36 ?_
        refine pm_iconst (v := 0) hC dX11_rules_39 ?_
        refine pm_putf hC 1 fl_X11_111 rfl rfl rfl (by decide) rfl trivial dX11_rules_40 ?_
        refine pm_aload_n hC 1 (by decide) dX11_rules_43 rfl ?_
        refine pm_getf (v := 63) hC 0 fl_X11_45 rfl rfl (by decide) rfl rfl dX11_rules_44 ?_
        refine pm_getf (v := y32) hC 63 fl_X11_139 rfl rfl (by decide) rfl e33 dX11_rules_47 ?_
        exact pm_iret hC hR pm_nar0 ⟨y32, rfl, ⟨by omega, by omega⟩, (((hV26.put2 0 10 (x := 63) (lo := 57) (hi := 63) rfl ⟨by omega, by decide⟩).put2 0 11 (x := 63) (lo := 57) (hi := 63) rfl ⟨by omega, by decide⟩).put 1 1 (x := 0) (lo := 0) (hi := 500) rfl ⟨by decide, by decide⟩), (((hF29.upf 0 10 63 rfl).upf 0 11 63 rfl).upf 1 1 0 rfl), (fun q => absurd (((hF27 0 11 (by decide) (by decide)).symm.trans e31).symm.trans q) (by decide)), (fun _ => ⟨y24, V22, hE28, Or.inl ⟨by omega, by omega, (show (pm_up (pm_up (pm_up V22 0 10 63) 0 11 63) 1 1 0) 1 1 = 0 from rfl), (show y32 = V22 63 0 from e33.symm), (show (pm_up (pm_up (pm_up V22 0 10 63) 0 11 63) 1 1 0) 0 10 = 63 from rfl), ((show (pm_up (pm_up (pm_up V22 0 10 63) 0 11 63) 1 1 0) 0 11 = 63 from rfl).trans ((hF27 0 10 (by decide) (by decide)).symm.trans e36).symm), ((show (pm_up (pm_up (pm_up V22 0 10 63) 0 11 63) 1 1 0) 63 0 = y32 from e33).trans e33.symm)⟩⟩), hT⟩ dX11_rules_50
    · skip
      replace hT := hT.trans (if_neg c35)
      refine pm_iconst (v := (-1)) hC dX11_rules_15 ?_
      exact pm_iret hC hR pm_nar0 ⟨(-1), rfl, ⟨by omega, by omega⟩, hV26, hF29, (fun q => absurd (((hF27 0 11 (by decide) (by decide)).symm.trans e31).symm.trans q) (by decide)), (fun _ => ⟨y24, V22, hE28, Or.inr ⟨by omega, rfl, rfl, hF27⟩⟩), hT⟩ dX11_rules_16
