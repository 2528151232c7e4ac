theorem dX7_begin_0 : decode cX7_begin 0 = .ok (.aload_n 0, 1) := by decide +kernel
theorem dX7_begin_1 : decode cX7_begin 1 = .ok (.iconst 0, 1) := by decide +kernel
theorem dX7_begin_2 : decode cX7_begin 2 = .ok (.putfield 15, 3) := by decide +kernel
theorem dX7_begin_5 : decode cX7_begin 5 = .ok (.aload_n 0, 1) := by decide +kernel
theorem dX7_begin_6 : decode cX7_begin 6 = .ok (.iconst 0, 1) := by decide +kernel
theorem dX7_begin_7 : decode cX7_begin 7 = .ok (.putfield 32, 3) := by decide +kernel
theorem dX7_begin_10 : decode cX7_begin 10 = .ok (.aload_n 0, 1) := by decide +kernel
theorem dX7_begin_11 : decode cX7_begin 11 = .ok (.iconst 0, 1) := by decide +kernel
theorem dX7_begin_12 : decode cX7_begin 12 = .ok (.iconst 0, 1) := by decide +kernel
theorem dX7_begin_13 : decode cX7_begin 13 = .ok (.iload_n 1, 1) := by decide +kernel
theorem dX7_begin_14 : decode cX7_begin 14 = .ok (.iconst 0, 1) := by decide +kernel
theorem dX7_begin_15 : decode cX7_begin 15 = .ok (.invokevirtual 51, 3) := by decide +kernel
theorem dX7_begin_18 : decode cX7_begin 18 = .ok (.pop, 1) := by decide +kernel
theorem dX7_begin_19 : decode cX7_begin 19 = .ok (.return_, 1) := by decide +kernel
noncomputable def F_X8_add (a1 : Int) (V0 : pm_M) : Int × pm_M := pf_val ((0 : Int), V0) (fun (q : Int × pm_M) => match q with | (x1, V3) => ((if x1 < 0 then ((.inr (0, V3))) else (pf_let (V3 1 1) fun y14 => (if 500 ≤ y14 then (pf_let (x1 + (-8)) fun x19 => (.inl (x19, V3))) else (pf_let ((pm_iushrV a1 x1)) fun y21 => pf_let ((pm_iandV y21 255)) fun y23 => pf_let (x1 + (-8)) fun x25 => (.inl (x25, (pm_up (pm_up V3 2 (y14 : Int).toNat y23) 1 1 (y14 + 1)))))))))) (24, V0)
theorem F_X8_add_eq (a1 : Int) (V0 : pm_M) : F_X8_add a1 V0 = pf_val ((0 : Int), V0) (fun (q : Int × pm_M) => match q with | (x1, V3) => ((if x1 < 0 then ((.inr (0, V3))) else (pf_let (V3 1 1) fun y14 => (if 500 ≤ y14 then (pf_let (x1 + (-8)) fun x19 => (.inl (x19, V3))) else (pf_let ((pm_iushrV a1 x1)) fun y21 => pf_let ((pm_iandV y21 255)) fun y23 => pf_let (x1 + (-8)) fun x25 => (.inl (x25, (pm_up (pm_up V3 2 (y14 : Int).toNat y23) 1 1 (y14 + 1)))))))))) (24, V0) := rfl
noncomputable def F_X11_feed (a1 a2 a3 a4 a5 : Int) (V0 : pm_M) : Int × pm_M := pf_let (V0 1 1) fun y2 => (if (y2 + 20) ≤ 500 then (pf_call (F_X8_add a1 V0) fun _ V7 => pf_call (F_X8_add a2 V7) fun _ V15 => pf_call (F_X8_add a3 V15) fun _ V23 => pf_call (F_X8_add a4 V23) fun _ V31 => pf_call (F_X8_add a5 V31) fun _ V39 => pf_let (V39 1 1) fun y46 => (y46, V39)) else (((-1), V0)))
theorem F_X11_feed_eq (a1 a2 a3 a4 a5 : Int) (V0 : pm_M) : F_X11_feed a1 a2 a3 a4 a5 V0 = pf_let (V0 1 1) fun y2 => (if (y2 + 20) ≤ 500 then (pf_call (F_X8_add a1 V0) fun _ V7 => pf_call (F_X8_add a2 V7) fun _ V15 => pf_call (F_X8_add a3 V15) fun _ V23 => pf_call (F_X8_add a4 V23) fun _ V31 => pf_call (F_X8_add a5 V31) fun _ V39 => pf_let (V39 1 1) fun y46 => (y46, V39)) else (((-1), V0))) := rfl
noncomputable def F_X11_end (a1 : Int) (V0 : pm_M) : Int × pm_M := (if a1 < 0 then ((0, V0)) else (pf_let (V0 1 1) fun y3 => (if a1 ≤ y3 then ((1, (pm_up V0 1 1 a1))) else ((0, V0)))))
theorem F_X11_end_eq (a1 : Int) (V0 : pm_M) : F_X11_end a1 V0 = (if a1 < 0 then ((0, V0)) else (pf_let (V0 1 1) fun y3 => (if a1 ≤ y3 then ((1, (pm_up V0 1 1 a1))) else ((0, V0))))) := rfl
noncomputable def F_X11_fault (a1 : Int) (V0 : pm_M) : Int × pm_M := (if ¬ (a1 = 0) then ((if ¬ (a1 = 1) then (((-2147483648), V0)) else ((if V0 0 11 = 57 then (pf_call (F_X3_read 57 V0) fun y8 V6 => (y8, V6)) else (pf_call (F_X3_read 63 V0) fun y19 V17 => (y19, V17)))))) else ((if V0 0 9 = 45 then (pf_call (F_X6_read 45 V0) fun y32 V30 => (y32, V30)) else (pf_call (F_X6_read 51 V0) fun y43 V41 => (y43, V41)))))
theorem F_X11_fault_eq (a1 : Int) (V0 : pm_M) : F_X11_fault a1 V0 = (if ¬ (a1 = 0) then ((if ¬ (a1 = 1) then (((-2147483648), V0)) else ((if V0 0 11 = 57 then (pf_call (F_X3_read 57 V0) fun y8 V6 => (y8, V6)) else (pf_call (F_X3_read 63 V0) fun y19 V17 => (y19, V17)))))) else ((if V0 0 9 = 45 then (pf_call (F_X6_read 45 V0) fun y32 V30 => (y32, V30)) else (pf_call (F_X6_read 51 V0) fun y43 V41 => (y43, V41))))) := rfl
noncomputable def F_X7_changePerson (a1 a2 a3 a4 : Int) (V0 : pm_M) : Int × pm_M := (0, (pm_up (pm_up (pm_up V0 5 (a1 : Int).toNat a2) 6 (a1 : Int).toNat a3) 7 (a1 : Int).toNat a4))
theorem F_X7_changePerson_eq (a1 a2 a3 a4 : Int) (V0 : pm_M) : F_X7_changePerson a1 a2 a3 a4 V0 = (0, (pm_up (pm_up (pm_up V0 5 (a1 : Int).toNat a2) 6 (a1 : Int).toNat a3) 7 (a1 : Int).toNat a4)) := rfl
noncomputable def F_X7_addPerson (a1 a2 a3 a4 : Int) (V0 : pm_M) : Int × pm_M := pf_let (V0 4 1) fun y1 => (if y1 < 10 then (pf_call (F_X7_changePerson y1 a1 a2 a3 (pm_up V0 8 (y1 : Int).toNat a4)) fun _ V7 => (((y1 + 1) - 1), (pm_up V7 4 1 (y1 + 1)))) else (((-1), V0)))
theorem F_X7_addPerson_eq (a1 a2 a3 a4 : Int) (V0 : pm_M) : F_X7_addPerson a1 a2 a3 a4 V0 = pf_let (V0 4 1) fun y1 => (if y1 < 10 then (pf_call (F_X7_changePerson y1 a1 a2 a3 (pm_up V0 8 (y1 : Int).toNat a4)) fun _ V7 => (((y1 + 1) - 1), (pm_up V7 4 1 (y1 + 1)))) else (((-1), V0))) := rfl
noncomputable def F_X7_begin (a1 : Int) (V0 : pm_M) : Int × pm_M := pf_call (F_X7_addPerson 0 0 a1 0 (pm_up (pm_up V0 4 1 0) 4 6 0)) fun y4 V2 => (0, V2)
theorem F_X7_begin_eq (a1 : Int) (V0 : pm_M) : F_X7_begin a1 V0 = pf_call (F_X7_addPerson 0 0 a1 0 (pm_up (pm_up V0 4 1 0) 4 6 0)) fun y4 V2 => (0, V2) := rfl
noncomputable def F_X11_scene (V0 : pm_M) : Int × pm_M := (if V0 0 9 = 45 then (pf_call (F_X6_read 45 V0) fun y6 V4 => (if y6 = (-1) then ((if V4 0 8 = 45 then (pf_let (V4 45 8) fun y18 => pf_call (F_X7_begin y18 (pm_up (pm_up (pm_up V4 0 8 45) 0 9 45) 1 1 0)) fun _ V22 => pf_val ((0 : Int), V0) (fun (q : Int × pm_M) => match q with | (x35, V37) => ((if 3 ≤ x35 then (pf_let (V37 45 0) fun y55 => (.inr (y55, V37))) else ((if x35 = 0 then (pf_let (x35 + 1) fun x60 => (.inl (x60, (pm_up V37 15 0 0)))) else ((if x35 = 1 then (pf_let (x35 + 1) fun x63 => (.inl (x63, (pm_up V37 25 0 0)))) else (pf_let (x35 + 1) fun x66 => (.inl (x66, (pm_up V37 35 0 0))))))))))) (0, V22)) else (pf_let (V4 45 8) fun y70 => pf_call (F_X7_begin y70 (pm_up (pm_up (pm_up V4 0 8 45) 0 9 51) 1 1 0)) fun _ V74 => pf_val ((0 : Int), V0) (fun (q : Int × pm_M) => match q with | (x87, V89) => ((if 3 ≤ x87 then (pf_let (V89 45 0) fun y107 => (.inr (y107, V89))) else ((if x87 = 0 then (pf_let (x87 + 1) fun x112 => (.inl (x112, (pm_up V89 15 0 0)))) else ((if x87 = 1 then (pf_let (x87 + 1) fun x115 => (.inl (x115, (pm_up V89 25 0 0)))) else (pf_let (x87 + 1) fun x118 => (.inl (x118, (pm_up V89 35 0 0))))))))))) (0, V74)))) else (((-1), V4)))) else (pf_call (F_X6_read 51 V0) fun y123 V121 => (if y123 = (-1) then ((if V121 0 8 = 45 then (pf_let (V121 51 8) fun y135 => pf_call (F_X7_begin y135 (pm_up (pm_up (pm_up V121 0 8 51) 0 9 45) 1 1 0)) fun _ V139 => pf_val ((0 : Int), V0) (fun (q : Int × pm_M) => match q with | (x152, V154) => ((if 3 ≤ x152 then (pf_let (V154 51 0) fun y172 => (.inr (y172, V154))) else ((if x152 = 0 then (pf_let (x152 + 1) fun x177 => (.inl (x177, (pm_up V154 15 0 0)))) else ((if x152 = 1 then (pf_let (x152 + 1) fun x180 => (.inl (x180, (pm_up V154 25 0 0)))) else (pf_let (x152 + 1) fun x183 => (.inl (x183, (pm_up V154 35 0 0))))))))))) (0, V139)) else (pf_let (V121 51 8) fun y187 => pf_call (F_X7_begin y187 (pm_up (pm_up (pm_up V121 0 8 51) 0 9 51) 1 1 0)) fun _ V191 => pf_val ((0 : Int), V0) (fun (q : Int × pm_M) => match q with | (x204, V206) => ((if 3 ≤ x204 then (pf_let (V206 51 0) fun y224 => (.inr (y224, V206))) else ((if x204 = 0 then (pf_let (x204 + 1) fun x229 => (.inl (x229, (pm_up V206 15 0 0)))) else ((if x204 = 1 then (pf_let (x204 + 1) fun x232 => (.inl (x232, (pm_up V206 25 0 0)))) else (pf_let (x204 + 1) fun x235 => (.inl (x235, (pm_up V206 35 0 0))))))))))) (0, V191)))) else (((-1), V121)))))
theorem F_X11_scene_eq (V0 : pm_M) : F_X11_scene V0 = (if V0 0 9 = 45 then (pf_call (F_X6_read 45 V0) fun y6 V4 => (if y6 = (-1) then ((if V4 0 8 = 45 then (pf_let (V4 45 8) fun y18 => pf_call (F_X7_begin y18 (pm_up (pm_up (pm_up V4 0 8 45) 0 9 45) 1 1 0)) fun _ V22 => pf_val ((0 : Int), V0) (fun (q : Int × pm_M) => match q with | (x35, V37) => ((if 3 ≤ x35 then (pf_let (V37 45 0) fun y55 => (.inr (y55, V37))) else ((if x35 = 0 then (pf_let (x35 + 1) fun x60 => (.inl (x60, (pm_up V37 15 0 0)))) else ((if x35 = 1 then (pf_let (x35 + 1) fun x63 => (.inl (x63, (pm_up V37 25 0 0)))) else (pf_let (x35 + 1) fun x66 => (.inl (x66, (pm_up V37 35 0 0))))))))))) (0, V22)) else (pf_let (V4 45 8) fun y70 => pf_call (F_X7_begin y70 (pm_up (pm_up (pm_up V4 0 8 45) 0 9 51) 1 1 0)) fun _ V74 => pf_val ((0 : Int), V0) (fun (q : Int × pm_M) => match q with | (x87, V89) => ((if 3 ≤ x87 then (pf_let (V89 45 0) fun y107 => (.inr (y107, V89))) else ((if x87 = 0 then (pf_let (x87 + 1) fun x112 => (.inl (x112, (pm_up V89 15 0 0)))) else ((if x87 = 1 then (pf_let (x87 + 1) fun x115 => (.inl (x115, (pm_up V89 25 0 0)))) else (pf_let (x87 + 1) fun x118 => (.inl (x118, (pm_up V89 35 0 0))))))))))) (0, V74)))) else (((-1), V4)))) else (pf_call (F_X6_read 51 V0) fun y123 V121 => (if y123 = (-1) then ((if V121 0 8 = 45 then (pf_let (V121 51 8) fun y135 => pf_call (F_X7_begin y135 (pm_up (pm_up (pm_up V121 0 8 51) 0 9 45) 1 1 0)) fun _ V139 => pf_val ((0 : Int), V0) (fun (q : Int × pm_M) => match q with | (x152, V154) => ((if 3 ≤ x152 then (pf_let (V154 51 0) fun y172 => (.inr (y172, V154))) else ((if x152 = 0 then (pf_let (x152 + 1) fun x177 => (.inl (x177, (pm_up V154 15 0 0)))) else ((if x152 = 1 then (pf_let (x152 + 1) fun x180 => (.inl (x180, (pm_up V154 25 0 0)))) else (pf_let (x152 + 1) fun x183 => (.inl (x183, (pm_up V154 35 0 0))))))))))) (0, V139)) else (pf_let (V121 51 8) fun y187 => pf_call (F_X7_begin y187 (pm_up (pm_up (pm_up V121 0 8 51) 0 9 51) 1 1 0)) fun _ V191 => pf_val ((0 : Int), V0) (fun (q : Int × pm_M) => match q with | (x204, V206) => ((if 3 ≤ x204 then (pf_let (V206 51 0) fun y224 => (.inr (y224, V206))) else ((if x204 = 0 then (pf_let (x204 + 1) fun x229 => (.inl (x229, (pm_up V206 15 0 0)))) else ((if x204 = 1 then (pf_let (x204 + 1) fun x232 => (.inl (x232, (pm_up V206 25 0 0)))) else (pf_let (x204 + 1) fun x235 => (.inl (x235, (pm_up V206 35 0 0))))))))))) (0, V191)))) else (((-1), V121))))) := rfl
noncomputable def F_X11_rules (V0 : pm_M) : Int × pm_M := (if V0 0 11 = 57 then (pf_call (F_X3_read 57 V0) fun y6 V4 => (if y6 = (-1) then ((if V4 0 10 = 57 then (pf_let (V4 57 0) fun y17 => (y17, (pm_up (pm_up (pm_up V4 0 10 57) 0 11 57) 1 1 0))) else (pf_let (V4 57 0) fun y21 => (y21, (pm_up (pm_up (pm_up V4 0 10 57) 0 11 63) 1 1 0))))) else (((-1), V4)))) else (pf_call (F_X3_read 63 V0) fun y27 V25 => (if y27 = (-1) then ((if V25 0 10 = 57 then (pf_let (V25 63 0) fun y38 => (y38, (pm_up (pm_up (pm_up V25 0 10 63) 0 11 57) 1 1 0))) else (pf_let (V25 63 0) fun y42 => (y42, (pm_up (pm_up (pm_up V25 0 10 63) 0 11 63) 1 1 0))))) else (((-1), V25)))))
theorem F_X11_rules_eq (V0 : pm_M) : F_X11_rules V0 = (if V0 0 11 = 57 then (pf_call (F_X3_read 57 V0) fun y6 V4 => (if y6 = (-1) then ((if V4 0 10 = 57 then (pf_let (V4 57 0) fun y17 => (y17, (pm_up (pm_up (pm_up V4 0 10 57) 0 11 57) 1 1 0))) else (pf_let (V4 57 0) fun y21 => (y21, (pm_up (pm_up (pm_up V4 0 10 57) 0 11 63) 1 1 0))))) else (((-1), V4)))) else (pf_call (F_X3_read 63 V0) fun y27 V25 => (if y27 = (-1) then ((if V25 0 10 = 57 then (pf_let (V25 63 0) fun y38 => (y38, (pm_up (pm_up (pm_up V25 0 10 63) 0 11 57) 1 1 0))) else (pf_let (V25 63 0) fun y42 => (y42, (pm_up (pm_up (pm_up V25 0 10 63) 0 11 63) 1 1 0))))) else (((-1), V25))))) := rfl
set_option maxHeartbeats 4000000 in
set_option maxRecDepth 100000 in
theorem fC_X8_add (a1 : Int) (h0 : (-2147483648) ≤ a1 ∧ a1 ≤ 2147483647) : pm_K 1 yX8_add cX8_add 3 none (fun av V => av = [(3, 1), (0, a1)] ∧ pm_ok 0 90 V) (fun _ V r V' => r = none ∧ pm_ok 0 90 V' ∧ pm_fr [1, 2] V V' ∧ F_X8_add a1 V = (0, V')) := by
  refine pm_MT.of (by decide) ⟨Nat.le_refl _, by decide⟩ (fun av V h => by rw [h.1]; exact (by decide : pm_words [(3, 0), (0, 0)] ≤ 3)) ?_
  rintro X av V0 hC - hR ⟨rfl, hV0⟩
  change pm_J X 0 [(0, (3, 1)), (1, (0, a1))] [] 118 V0
  have hT := F_X8_add_eq a1 V0
  refine pm_bipush (v := 24) hC dX8_add_0 (by decide) ?_
  refine pm_istore_n (lv' := [(2, (0, 24)), (0, (3, 1)), (1, (0, a1))]) hC dX8_add_2 (by decide) rfl ?_
  obtain ⟨B6, hB7, hT⟩ := pf_loop hT
  have L9 : ∀ (N11 : Nat) (x1 : Int) (V3 : pm_M), ((-99) ≤ x1 ∧ x1 ≤ 24) → pm_ok 0 90 V3 → pm_fr [1, 2] V0 V3 → F_X8_add a1 V0 = pf_val ((0 : Int), V0) B6 (x1, V3) → (Int.toNat (x1 - (-99))) = N11 → pm_J X 3 [(0, (3, 1)), (1, (0, a1)), (2, (0, x1))] [] 118 V3 := by
    intro N11
    induction N11 using Nat.strongRecOn with
    | _ N11 ih12 =>
    intro x1 V3 b2 hV4 hF5 hT hm10
    have hb8 := congrFun hB7 (x1, V3)
    refine pm_iload_n hC 2 dX8_add_3 rfl ?_
    refine pm_if_lt (tgt := 51) hC ⟨by omega, by omega⟩ dX8_add_4 (by decide) (fun c13 => ?_) (fun c13 => ?_)
    · skip
      replace hb8 := hb8.trans (if_pos c13)
      have hT := hT.trans (pf_val_inr hb8)
      exact pm_vret hC hR ⟨rfl, hV4, hF5, hT⟩ dX8_add_51
    · skip
      replace hb8 := hb8.trans (if_neg (Int.not_lt.mpr c13))
      refine pm_aload_n hC 0 (by decide) dX8_add_7 rfl ?_
      obtain ⟨y14, e15⟩ : ∃ y, V3 1 1 = y := ⟨_, rfl⟩
      have b16 := hV4.get 1 1 (lo := 0) (hi := 500) (by decide) (by decide) rfl
      rw [e15] at b16
      replace hb8 := hb8.trans (pf_let_eq e15)
      refine pm_getf (v := y14) hC 1 fl_X8_15 rfl rfl (by decide) rfl e15 dX8_add_8 ?_
      refine pm_aload_n hC 0 (by decide) dX8_add_11 rfl ?_
      have e17 : V3 1 0 = 2 := hV4.one 1 0 (by decide) (by decide) rfl
      refine pm_getf (v := 2) hC 1 fl_X8_9 rfl rfl (by decide) rfl e17 dX8_add_12 ?_
      refine pm_alen hC 2 rfl (by decide) rfl (by decide) dX8_add_15 ?_
      change pm_J X 16 [(0, (3, 1)), (1, (0, a1)), (2, (0, x1))] [(0, 500), (0, y14)] 118 V3
      refine pm_icmp_ge (tgt := 45) hC ⟨by omega, by omega⟩ ⟨by decide, by decide⟩ dX8_add_16 (by decide) (fun c18 => ?_) (fun c18 => ?_)
      · skip
        replace hb8 := hb8.trans (if_pos c18)
        obtain ⟨x19, ei20⟩ : ∃ y : Int, x1 + (-8) = y := ⟨_, rfl⟩
        replace hb8 := hb8.trans (pf_let_eq ei20)
        refine pm_iinc (y := x19) (lv' := [(2, (0, x19)), (0, (3, 1)), (1, (0, a1))]) hC 2 dX8_add_45 (by decide) rfl ei20 rfl ?_
        refine pm_goto (tgt := 3) hC dX8_add_48 (by decide) ?_
        refine pm_lvsub [1, 2, 0] (lv' := [(0, (3, 1)), (1, (0, a1)), (2, (0, x19))]) rfl ?_
        exact ih12 _ (by omega) x19 V3 ⟨by omega, by omega⟩ hV4 hF5 (hT.trans (pf_val_inl hb8)) rfl
      · skip
        replace hb8 := hb8.trans (if_neg (Int.not_le.mpr c18))
        refine pm_aload_n hC 0 (by decide) dX8_add_19 rfl ?_
        refine pm_getf (v := 2) hC 1 fl_X8_9 rfl rfl (by decide) rfl e17 dX8_add_20 ?_
        refine pm_aload_n hC 0 (by decide) dX8_add_23 rfl ?_
        refine pm_getf (v := y14) hC 1 fl_X8_15 rfl rfl (by decide) rfl e15 dX8_add_24 ?_
        refine pm_iload_n hC 1 dX8_add_27 rfl ?_
        refine pm_iload_n hC 2 dX8_add_28 rfl ?_
        refine pm_iushr hC dX8_add_29 ?_
        have b22 := pm_iushrr a1 x1
        obtain ⟨y21, hey21⟩ : ∃ z, (pm_iushrV a1 x1) = z := ⟨_, rfl⟩
        rw [hey21] at b22 ⊢
        replace hb8 := hb8.trans (pf_let_eq hey21)
        refine pm_sipush (v := 255) hC dX8_add_30 (by decide) ?_
        refine pm_iand hC dX8_add_33 ?_
        have b24 := pm_iandb (x := y21) (y := 255) (by decide)
        obtain ⟨y23, hey23⟩ : ∃ z, (pm_iandV y21 255) = z := ⟨_, rfl⟩
        rw [hey23] at b24 ⊢
        replace hb8 := hb8.trans (pf_let_eq hey23)
        refine pm_iastore (len := 500) hC 2 rfl rfl (by decide) ⟨by omega, by omega⟩ (by decide) dX8_add_34 ?_
        refine pm_aload_n hC 0 (by decide) dX8_add_35 rfl ?_
        refine pm_dup hC rfl dX8_add_36 ?_
        refine pm_getf (v := y14) hC 1 fl_X8_15 rfl rfl (by decide) rfl e15 dX8_add_37 ?_
        refine pm_iconst (v := 1) hC dX8_add_40 ?_
        refine pm_iadd hC dX8_add_41 ?_
        refine pm_putf hC 1 fl_X8_15 rfl rfl rfl (by decide) rfl trivial dX8_add_42 ?_
        obtain ⟨x25, ei26⟩ : ∃ y : Int, x1 + (-8) = y := ⟨_, rfl⟩
        replace hb8 := hb8.trans (pf_let_eq ei26)
        refine pm_iinc (y := x25) (lv' := [(2, (0, x25)), (0, (3, 1)), (1, (0, a1))]) hC 2 dX8_add_45 (by decide) rfl ei26 rfl ?_
        refine pm_goto (tgt := 3) hC dX8_add_48 (by decide) ?_
        refine pm_lvsub [1, 2, 0] (lv' := [(0, (3, 1)), (1, (0, a1)), (2, (0, x25))]) rfl ?_
        exact ih12 _ (by omega) x25 (pm_up (pm_up V3 2 (y14 : Int).toNat y23) 1 1 (y14 + 1)) ⟨by omega, by omega⟩ ((hV4.put 2 (y14 : Int).toNat (x := y23) (lo := 0) (hi := 255) rfl ⟨by omega, by omega⟩).put 1 1 (x := (y14 + 1)) (lo := 0) (hi := 500) rfl ⟨by omega, by omega⟩) ((hF5.up 2 (y14 : Int).toNat y23 rfl).up 1 1 (y14 + 1) rfl) (hT.trans (pf_val_inl hb8)) rfl
  refine pm_lvsub [1, 2, 0] (lv' := [(0, (3, 1)), (1, (0, a1)), (2, (0, 24))]) rfl ?_
  exact L9 _ 24 V0 ⟨by decide, by decide⟩ hV0 (pm_fr.rf (ws := [1, 2]) (V := V0)) hT rfl
set_option maxHeartbeats 4000000 in
set_option maxRecDepth 100000 in
theorem fC_X11_feed (a1 a2 a3 a4 a5 : Int) (h0 : (-2147483648) ≤ a1 ∧ a1 ≤ 2147483647) (h1 : (-2147483648) ≤ a2 ∧ a2 ≤ 2147483647) (h2 : (-2147483648) ≤ a3 ∧ a3 ≤ 2147483647) (h3 : (-2147483648) ≤ a4 ∧ a4 ≤ 2147483647) (h4 : (-2147483648) ≤ a5 ∧ a5 ≤ 2147483647) : pm_K 2 yX11_feed cX11_feed 6 (some .int) (fun av V => av = [(3, 0), (0, a1), (0, a2), (0, a3), (0, a4), (0, a5)] ∧ pm_ok 0 90 V) (fun _ V r V' => ∃ y, r = some (0, y) ∧ ((-1) ≤ y ∧ y ≤ 500) ∧ pm_ok 0 90 V' ∧ pm_fr [1, 2] V V' ∧ F_X11_feed a1 a2 a3 a4 a5 V = (y, V')) := by
  refine pm_MT.of (by decide) ⟨Nat.le_refl _, by decide⟩ (fun av V h => by rw [h.1]; exact (by decide : pm_words [(3, 0), (0, 0), (0, 0), (0, 0), (0, 0), (0, 0)] ≤ 6)) ?_
  rintro X av V0 hC - hR ⟨rfl, hV0⟩
  change pm_J X 0 [(0, (3, 0)), (1, (0, a1)), (2, (0, a2)), (3, (0, a3)), (4, (0, a4)), (5, (0, a5))] [] 118 V0
  have hT := F_X11_feed_eq a1 a2 a3 a4 a5 V0
  refine pm_aload_n hC 0 (by decide) dX11_feed_0 rfl ?_
  have e1 : V0 0 0 = 1 := hV0.one 0 0 (by decide) (by decide) rfl
  refine pm_getf (v := 1) hC 0 fl_X11_10 rfl rfl (by decide) rfl e1 dX11_feed_1 ?_
  obtain ⟨y2, e3⟩ : ∃ y, V0 1 1 = y := ⟨_, rfl⟩
  have b4 := hV0.get 1 1 (lo := 0) (hi := 500) (by decide) (by decide) rfl
  rw [e3] at b4
  replace hT := hT.trans (pf_let_eq e3)
  refine pm_getf (v := y2) hC 1 fl_X11_111 rfl rfl (by decide) rfl e3 dX11_feed_4 ?_
  refine pm_bipush (v := 20) hC dX11_feed_7 (by decide) ?_
  refine pm_iadd hC dX11_feed_9 ?_
  refine pm_sipush (v := 500) hC dX11_feed_10 (by decide) ?_
  refine pm_icmp_le (tgt := 18) hC ⟨by omega, by omega⟩ ⟨by decide, by decide⟩ dX11_feed_13 (by decide) (fun c5 => ?_) (fun c5 => ?_)
  · skip
    replace hT := hT.trans (if_pos c5)
    refine pm_aload_n hC 0 (by decide) dX11_feed_18 rfl ?_
    refine pm_getf (v := 1) hC 0 fl_X11_10 rfl rfl (by decide) rfl e1 dX11_feed_19 ?_
    refine pm_iload_n hC 1 dX11_feed_22 rfl ?_
    refine pm_callV (ci := 8) (as := [(0, a1)]) (st := []) hC 1 (fC_X8_add a1 ⟨by omega, by omega⟩) lm_X11_114 li_X8_add (by decide) (by decide) rfl rfl rfl (by decide) rfl rfl (Nat.le_of_ble_eq_true rfl) ⟨Nat.le_refl _, Or.inl rfl⟩ dX11_feed_23 ⟨rfl, hV0⟩ (fun r6 V7 hp8 => ?_)
    obtain ⟨rfl, hV9, hF10, hE11⟩ := hp8
    replace hT := hT.trans (pf_call_eq hE11)
    change pm_J X 26 [(0, (3, 0)), (1, (0, a1)), (2, (0, a2)), (3, (0, a3)), (4, (0, a4)), (5, (0, a5))] [] 118 V7
    have hF12 := pm_fr.tr (pm_fr.rf (ws := [1, 2]) (V := V0)) hF10 (by decide)
    have e13 : V7 0 0 = 1 := by rw [hF10 0 (by decide)]; exact e1
    refine pm_aload_n hC 0 (by decide) dX11_feed_26 rfl ?_
    refine pm_getf (v := 1) hC 0 fl_X11_10 rfl rfl (by decide) rfl e13 dX11_feed_27 ?_
    refine pm_iload_n hC 2 dX11_feed_30 rfl ?_
    refine pm_callV (ci := 8) (as := [(0, a2)]) (st := []) hC 1 (fC_X8_add a2 ⟨by omega, by omega⟩) lm_X11_114 li_X8_add (by decide) (by decide) rfl rfl rfl (by decide) rfl rfl (Nat.le_of_ble_eq_true rfl) ⟨Nat.le_refl _, Or.inl rfl⟩ dX11_feed_31 ⟨rfl, hV9⟩ (fun r14 V15 hp16 => ?_)
    obtain ⟨rfl, hV17, hF18, hE19⟩ := hp16
    replace hT := hT.trans (pf_call_eq hE19)
    change pm_J X 34 [(0, (3, 0)), (1, (0, a1)), (2, (0, a2)), (3, (0, a3)), (4, (0, a4)), (5, (0, a5))] [] 118 V15
    have hF20 := pm_fr.tr hF12 hF18 (by decide)
    have e21 : V15 0 0 = 1 := by rw [hF18 0 (by decide)]; exact e13
    refine pm_aload_n hC 0 (by decide) dX11_feed_34 rfl ?_
    refine pm_getf (v := 1) hC 0 fl_X11_10 rfl rfl (by decide) rfl e21 dX11_feed_35 ?_
    refine pm_iload_n hC 3 dX11_feed_38 rfl ?_
    refine pm_callV (ci := 8) (as := [(0, a3)]) (st := []) hC 1 (fC_X8_add a3 ⟨by omega, by omega⟩) lm_X11_114 li_X8_add (by decide) (by decide) rfl rfl rfl (by decide) rfl rfl (Nat.le_of_ble_eq_true rfl) ⟨Nat.le_refl _, Or.inl rfl⟩ dX11_feed_39 ⟨rfl, hV17⟩ (fun r22 V23 hp24 => ?_)
    obtain ⟨rfl, hV25, hF26, hE27⟩ := hp24
    replace hT := hT.trans (pf_call_eq hE27)
    change pm_J X 42 [(0, (3, 0)), (1, (0, a1)), (2, (0, a2)), (3, (0, a3)), (4, (0, a4)), (5, (0, a5))] [] 118 V23
    have hF28 := pm_fr.tr hF20 hF26 (by decide)
    have e29 : V23 0 0 = 1 := by rw [hF26 0 (by decide)]; exact e21
    refine pm_aload_n hC 0 (by decide) dX11_feed_42 rfl ?_
    refine pm_getf (v := 1) hC 0 fl_X11_10 rfl rfl (by decide) rfl e29 dX11_feed_43 ?_
    refine pm_iload hC 4 dX11_feed_46 rfl ?_
    refine pm_callV (ci := 8) (as := [(0, a4)]) (st := []) hC 1 (fC_X8_add a4 ⟨by omega, by omega⟩) lm_X11_114 li_X8_add (by decide) (by decide) rfl rfl rfl (by decide) rfl rfl (Nat.le_of_ble_eq_true rfl) ⟨Nat.le_refl _, Or.inl rfl⟩ dX11_feed_48 ⟨rfl, hV25⟩ (fun r30 V31 hp32 => ?_)
    obtain ⟨rfl, hV33, hF34, hE35⟩ := hp32
    replace hT := hT.trans (pf_call_eq hE35)
    change pm_J X 51 [(0, (3, 0)), (1, (0, a1)), (2, (0, a2)), (3, (0, a3)), (4, (0, a4)), (5, (0, a5))] [] 118 V31
    have hF36 := pm_fr.tr hF28 hF34 (by decide)
    have e37 : V31 0 0 = 1 := by rw [hF34 0 (by decide)]; exact e29
    refine pm_aload_n hC 0 (by decide) dX11_feed_51 rfl ?_
    refine pm_getf (v := 1) hC 0 fl_X11_10 rfl rfl (by decide) rfl e37 dX11_feed_52 ?_
    refine pm_iload hC 5 dX11_feed_55 rfl ?_
    refine pm_callV (ci := 8) (as := [(0, a5)]) (st := []) hC 1 (fC_X8_add a5 ⟨by omega, by omega⟩) lm_X11_114 li_X8_add (by decide) (by decide) rfl rfl rfl (by decide) rfl rfl (Nat.le_of_ble_eq_true rfl) ⟨Nat.le_refl _, Or.inl rfl⟩ dX11_feed_57 ⟨rfl, hV33⟩ (fun r38 V39 hp40 => ?_)
    obtain ⟨rfl, hV41, hF42, hE43⟩ := hp40
    replace hT := hT.trans (pf_call_eq hE43)
    change pm_J X 60 [(0, (3, 0)), (1, (0, a1)), (2, (0, a2)), (3, (0, a3)), (4, (0, a4)), (5, (0, a5))] [] 118 V39
    have hF44 := pm_fr.tr hF36 hF42 (by decide)
    have e45 : V39 0 0 = 1 := by rw [hF42 0 (by decide)]; exact e37
    refine pm_aload_n hC 0 (by decide) dX11_feed_60 rfl ?_
    refine pm_getf (v := 1) hC 0 fl_X11_10 rfl rfl (by decide) rfl e45 dX11_feed_61 ?_
    obtain ⟨y46, e47⟩ : ∃ y, V39 1 1 = y := ⟨_, rfl⟩
    have b48 := hV41.get 1 1 (lo := 0) (hi := 500) (by decide) (by decide) rfl
    rw [e47] at b48
    replace hT := hT.trans (pf_let_eq e47)
    refine pm_getf (v := y46) hC 1 fl_X11_111 rfl rfl (by decide) rfl e47 dX11_feed_64 ?_
    exact pm_iret hC hR pm_nar0 ⟨y46, rfl, ⟨by omega, by omega⟩, hV41, hF44, hT⟩ dX11_feed_67
  · skip
    replace hT := hT.trans (if_neg (Int.not_le.mpr c5))
    refine pm_iconst (v := (-1)) hC dX11_feed_16 ?_
    exact pm_iret hC hR pm_nar0 ⟨(-1), rfl, ⟨by omega, by omega⟩, hV0, (pm_fr.rf (ws := [1, 2]) (V := V0)), hT⟩ dX11_feed_17
set_option maxHeartbeats 4000000 in
set_option maxRecDepth 100000 in
theorem fC_X11_end (a1 : Int) (h0 : (-2147483648) ≤ a1 ∧ a1 ≤ 2147483647) : pm_K 1 yX11_end cX11_end 2 (some .boolean) (fun av V => av = [(3, 0), (0, a1)] ∧ pm_ok 0 90 V) (fun _ V r V' => ∃ y, r = some (0, y) ∧ (0 ≤ y ∧ y ≤ 1) ∧ pm_ok 0 90 V' ∧ pm_fr [1] V V' ∧ F_X11_end a1 V = (y, V')) := by
  refine pm_MT.of (by decide) ⟨Nat.le_refl _, by decide⟩ (fun av V h => by rw [h.1]; exact (by decide : pm_words [(3, 0), (0, 0)] ≤ 2)) ?_
  rintro X av V0 hC - hR ⟨rfl, hV0⟩
  change pm_J X 0 [(0, (3, 0)), (1, (0, a1))] [] 118 V0
  have hT := F_X11_end_eq a1 V0
  refine pm_iload_n hC 1 dX11_end_0 rfl ?_
  refine pm_if_lt (tgt := 15) hC ⟨by omega, by omega⟩ dX11_end_1 (by decide) (fun c1 => ?_) (fun c1 => ?_)
  · skip
    replace hT := hT.trans (if_pos c1)
    refine pm_iconst (v := 0) hC dX11_end_15 ?_
    exact pm_iret hC hR (pm_narZ (by omega)) ⟨0, rfl, ⟨by omega, by omega⟩, hV0, (pm_fr.rf (ws := [1]) (V := V0)), hT⟩ dX11_end_16
  · skip
    replace hT := hT.trans (if_neg (Int.not_lt.mpr c1))
    refine pm_iload_n hC 1 dX11_end_4 rfl ?_
    refine pm_aload_n hC 0 (by decide) dX11_end_5 rfl ?_
    have e2 : V0 0 0 = 1 := hV0.one 0 0 (by decide) (by decide) rfl
    refine pm_getf (v := 1) hC 0 fl_X11_10 rfl rfl (by decide) rfl e2 dX11_end_6 ?_
    obtain ⟨y3, e4⟩ : ∃ y, V0 1 1 = y := ⟨_, rfl⟩
    have b5 := hV0.get 1 1 (lo := 0) (hi := 500) (by decide) (by decide) rfl
    rw [e4] at b5
    replace hT := hT.trans (pf_let_eq e4)
    refine pm_getf (v := y3) hC 1 fl_X11_111 rfl rfl (by decide) rfl e4 dX11_end_9 ?_
    refine pm_icmp_le (tgt := 17) hC ⟨by omega, by omega⟩ ⟨by omega, by omega⟩ dX11_end_12 (by decide) (fun c6 => ?_) (fun c6 => ?_)
    · skip
      replace hT := hT.trans (if_pos c6)
      refine pm_aload_n hC 0 (by decide) dX11_end_17 rfl ?_
      refine pm_getf (v := 1) hC 0 fl_X11_10 rfl rfl (by decide) rfl e2 dX11_end_18 ?_
      refine pm_iload_n hC 1 dX11_end_21 rfl ?_
      refine pm_putf hC 1 fl_X11_111 rfl rfl rfl (by decide) rfl trivial dX11_end_22 ?_
      refine pm_iconst (v := 1) hC dX11_end_25 ?_
      exact pm_iret hC hR (pm_narZ (by omega)) ⟨1, rfl, ⟨by omega, by omega⟩, (hV0.put 1 1 (x := a1) (lo := 0) (hi := 500) rfl ⟨by omega, by omega⟩), ((pm_fr.rf (ws := [1]) (V := V0)).up 1 1 a1 rfl), hT⟩ dX11_end_26
    · skip
      replace hT := hT.trans (if_neg (Int.not_le.mpr c6))
      refine pm_iconst (v := 0) hC dX11_end_15 ?_
      exact pm_iret hC hR (pm_narZ (by omega)) ⟨0, rfl, ⟨by omega, by omega⟩, hV0, (pm_fr.rf (ws := [1]) (V := V0)), hT⟩ dX11_end_16
set_option maxHeartbeats 4000000 in
set_option maxRecDepth 100000 in
theorem fC_X11_fault (a1 : Int) (h0 : (-2147483648) ≤ a1 ∧ a1 ≤ 2147483647) : pm_K 32 yX11_fault cX11_fault 2 (some .int) (fun av V => av = [(3, 0), (0, a1)] ∧ pm_ok 0 90 V) (fun _ V r V' => ∃ y, r = some (0, y) ∧ ((-2147483648) ≤ y ∧ y ≤ 500) ∧ pm_ok 0 90 V' ∧ pm_fr [3, 45, 46, 47, 48, 49, 50, 51, 52, 53, 54, 55, 56, 57, 58, 59, 60, 61, 63, 64, 65, 66, 67, 69, 70, 71, 72] V V' ∧ F_X11_fault a1 V = (y, V')) := by
  refine pm_MT.of (by decide) ⟨Nat.le_refl _, by decide⟩ (fun av V h => by rw [h.1]; exact (by decide : pm_words [(3, 0), (0, 0)] ≤ 2)) ?_
  rintro X av V0 hC - hR ⟨rfl, hV0⟩
  change pm_J X 0 [(0, (3, 0)), (1, (0, a1))] [] 118 V0
  have hT := F_X11_fault_eq a1 V0
  refine pm_iload_n hC 1 dX11_fault_0 rfl ?_
  refine pm_if_ne (tgt := 16) hC ⟨by omega, by omega⟩ dX11_fault_1 (by decide) (fun c1 => ?_) (fun c1 => ?_)
  · skip
    replace hT := hT.trans (if_pos c1)
    refine pm_iload_n hC 1 dX11_fault_16 rfl ?_
    refine pm_iconst (v := 1) hC dX11_fault_17 ?_
    refine pm_icmp_ne (tgt := 33) hC ⟨by omega, by omega⟩ ⟨by decide, by decide⟩ dX11_fault_18 (by decide) (fun c2 => ?_) (fun c2 => ?_)
    · skip
      replace hT := hT.trans (if_pos c2)
      refine pm_ldc (v := (-2147483648)) hC 3153 dX11_fault_33 (by decide +kernel) ?_
      exact pm_iret hC hR pm_nar0 ⟨(-2147483648), rfl, ⟨by omega, by omega⟩, hV0, (pm_fr.rf (ws := [3, 45, 46, 47, 48, 49, 50, 51, 52, 53, 54, 55, 56, 57, 58, 59, 60, 61, 63, 64, 65, 66, 67, 69, 70, 71, 72]) (V := V0)), hT⟩ dX11_fault_35
    · skip
      replace hT := hT.trans (if_neg (fun q => q c2))
      refine pm_aload_n hC 0 (by decide) dX11_fault_21 rfl ?_
      have e3 : V0 0 2 = 72 := hV0.one 0 2 (by decide) (by decide) rfl
      refine pm_getf (v := 72) hC 0 fl_X11_66 rfl rfl (by decide) rfl e3 dX11_fault_22 ?_
      refine pm_aload_n hC 0 (by decide) dX11_fault_25 rfl ?_
      rcases hV0.get2 0 11 (lo := 57) (hi := 63) (by decide) (by decide) rfl with e4 | e4
      · skip
        replace hT := hT.trans (if_pos e4)
        refine pm_getf (v := 57) hC 0 fl_X11_49 rfl rfl (by decide) rfl e4 dX11_fault_26 ?_
        refine pm_callV (ci := 3) (as := [(3, 57)]) (st := []) hC 72 fC_X3_read_57 lm_X11_122 li_X3_read (by decide) (by decide) rfl rfl rfl (by decide) rfl rfl (Nat.le_of_ble_eq_true rfl) ⟨Nat.le_refl _, Or.inl rfl⟩ dX11_fault_29 ⟨rfl, hV0⟩ (fun r5 V6 hp7 => ?_)
        obtain ⟨y8, rfl, b9, hV10, hF11, hE12⟩ := hp7
        replace hT := hT.trans (pf_call_eq hE12)
        change pm_J X 32 [(0, (3, 0)), (1, (0, a1))] [(0, y8)] 118 V6
        have hF13 := pm_fr.tr (pm_fr.rf (ws := [3, 45, 46, 47, 48, 49, 50, 51, 52, 53, 54, 55, 56, 57, 58, 59, 60, 61, 63, 64, 65, 66, 67, 69, 70, 71, 72]) (V := V0)) hF11 (by decide)
        have e14 : V6 0 2 = 72 := by rw [hF11 0 (by decide)]; exact e3
        have e15 : V6 0 11 = 57 := by rw [hF11 0 (by decide)]; exact e4
        exact pm_iret hC hR pm_nar0 ⟨y8, rfl, ⟨by omega, by omega⟩, hV10, hF13, hT⟩ dX11_fault_32
      · skip
        replace hT := hT.trans (if_neg (by rw [e4]; decide))
        refine pm_getf (v := 63) hC 0 fl_X11_49 rfl rfl (by decide) rfl e4 dX11_fault_26 ?_
        refine pm_callV (ci := 3) (as := [(3, 63)]) (st := []) hC 72 fC_X3_read_63 lm_X11_122 li_X3_read (by decide) (by decide) rfl rfl rfl (by decide) rfl rfl (Nat.le_of_ble_eq_true rfl) ⟨Nat.le_refl _, Or.inl rfl⟩ dX11_fault_29 ⟨rfl, hV0⟩ (fun r16 V17 hp18 => ?_)
        obtain ⟨y19, rfl, b20, hV21, hF22, hE23⟩ := hp18
        replace hT := hT.trans (pf_call_eq hE23)
        change pm_J X 32 [(0, (3, 0)), (1, (0, a1))] [(0, y19)] 118 V17
        have hF24 := pm_fr.tr (pm_fr.rf (ws := [3, 45, 46, 47, 48, 49, 50, 51, 52, 53, 54, 55, 56, 57, 58, 59, 60, 61, 63, 64, 65, 66, 67, 69, 70, 71, 72]) (V := V0)) hF22 (by decide)
        have e25 : V17 0 2 = 72 := by rw [hF22 0 (by decide)]; exact e3
        have e26 : V17 0 11 = 63 := by rw [hF22 0 (by decide)]; exact e4
        exact pm_iret hC hR pm_nar0 ⟨y19, rfl, ⟨by omega, by omega⟩, hV21, hF24, hT⟩ dX11_fault_32
  · skip
    replace hT := hT.trans (if_neg (fun q => q c1))
    refine pm_aload_n hC 0 (by decide) dX11_fault_4 rfl ?_
    have e27 : V0 0 1 = 69 := hV0.one 0 1 (by decide) (by decide) rfl
    refine pm_getf (v := 69) hC 0 fl_X11_57 rfl rfl (by decide) rfl e27 dX11_fault_5 ?_
    refine pm_aload_n hC 0 (by decide) dX11_fault_8 rfl ?_
    rcases hV0.get2 0 9 (lo := 45) (hi := 51) (by decide) (by decide) rfl with e28 | e28
    · skip
      replace hT := hT.trans (if_pos e28)
      refine pm_getf (v := 45) hC 0 fl_X11_39 rfl rfl (by decide) rfl e28 dX11_fault_9 ?_
      refine pm_callV (ci := 6) (as := [(3, 45)]) (st := []) hC 69 fC_X6_read_45 lm_X11_118 li_X6_read (by decide) (by decide) rfl rfl rfl (by decide) rfl rfl (Nat.le_of_ble_eq_true rfl) ⟨Nat.le_refl _, Or.inl rfl⟩ dX11_fault_12 ⟨rfl, hV0⟩ (fun r29 V30 hp31 => ?_)
      obtain ⟨y32, rfl, b33, hV34, hF35, hE36⟩ := hp31
      replace hT := hT.trans (pf_call_eq hE36)
      change pm_J X 15 [(0, (3, 0)), (1, (0, a1))] [(0, y32)] 118 V30
      have hF37 := pm_fr.tr (pm_fr.rf (ws := [3, 45, 46, 47, 48, 49, 50, 51, 52, 53, 54, 55, 56, 57, 58, 59, 60, 61, 63, 64, 65, 66, 67, 69, 70, 71, 72]) (V := V0)) hF35 (by decide)
      have e38 : V30 0 1 = 69 := by rw [hF35 0 (by decide)]; exact e27
      have e39 : V30 0 9 = 45 := by rw [hF35 0 (by decide)]; exact e28
      exact pm_iret hC hR pm_nar0 ⟨y32, rfl, ⟨by omega, by omega⟩, hV34, hF37, hT⟩ dX11_fault_15
    · skip
      replace hT := hT.trans (if_neg (by rw [e28]; decide))
      refine pm_getf (v := 51) hC 0 fl_X11_39 rfl rfl (by decide) rfl e28 dX11_fault_9 ?_
      refine pm_callV (ci := 6) (as := [(3, 51)]) (st := []) hC 69 fC_X6_read_51 lm_X11_118 li_X6_read (by decide) (by decide) rfl rfl rfl (by decide) rfl rfl (Nat.le_of_ble_eq_true rfl) ⟨Nat.le_refl _, Or.inl rfl⟩ dX11_fault_12 ⟨rfl, hV0⟩ (fun r40 V41 hp42 => ?_)
      obtain ⟨y43, rfl, b44, hV45, hF46, hE47⟩ := hp42
      replace hT := hT.trans (pf_call_eq hE47)
      change pm_J X 15 [(0, (3, 0)), (1, (0, a1))] [(0, y43)] 118 V41
      have hF48 := pm_fr.tr (pm_fr.rf (ws := [3, 45, 46, 47, 48, 49, 50, 51, 52, 53, 54, 55, 56, 57, 58, 59, 60, 61, 63, 64, 65, 66, 67, 69, 70, 71, 72]) (V := V0)) hF46 (by decide)
      have e49 : V41 0 1 = 69 := by rw [hF46 0 (by decide)]; exact e27
      have e50 : V41 0 9 = 51 := by rw [hF46 0 (by decide)]; exact e28
      exact pm_iret hC hR pm_nar0 ⟨y43, rfl, ⟨by omega, by omega⟩, hV45, hF48, hT⟩ dX11_fault_15
set_option maxHeartbeats 4000000 in
set_option maxRecDepth 100000 in
theorem fC_X7_changePerson (a1 a2 a3 a4 : Int) (h0 : 0 ≤ a1 ∧ a1 ≤ 9) (h1 : (-30) ≤ a2 ∧ a2 ≤ 30) (h2 : (-30) ≤ a3 ∧ a3 ≤ 30) (h3 : 0 ≤ a4 ∧ a4 ≤ 16) : pm_K 1 yX7_changePerson cX7_changePerson 5 none (fun av V => av = [(3, 4), (0, a1), (0, a2), (0, a3), (0, a4)] ∧ pm_ok 0 90 V) (fun _ V r V' => r = none ∧ pm_ok 0 90 V' ∧ pm_fr [5, 6, 7] V V' ∧ F_X7_changePerson a1 a2 a3 a4 V = (0, V')) := by
  refine pm_MT.of (by decide) ⟨Nat.le_refl _, by decide⟩ (fun av V h => by rw [h.1]; exact (by decide : pm_words [(3, 0), (0, 0), (0, 0), (0, 0), (0, 0)] ≤ 5)) ?_
  rintro X av V0 hC - hR ⟨rfl, hV0⟩
  change pm_J X 0 [(0, (3, 4)), (1, (0, a1)), (2, (0, a2)), (3, (0, a3)), (4, (0, a4))] [] 118 V0
  have hT := F_X7_changePerson_eq a1 a2 a3 a4 V0
  refine pm_aload_n hC 0 (by decide) dX7_changePerson_0 rfl ?_
  have e1 : V0 4 2 = 5 := hV0.one 4 2 (by decide) (by decide) rfl
  refine pm_getf (v := 5) hC 4 fl_X7_19 rfl rfl (by decide) rfl e1 dX7_changePerson_1 ?_
  refine pm_iload_n hC 1 dX7_changePerson_4 rfl ?_
  refine pm_iload_n hC 2 dX7_changePerson_5 rfl ?_
  refine pm_iastore (len := 10) hC 5 rfl rfl (by decide) ⟨by omega, by omega⟩ (by decide) dX7_changePerson_6 ?_
  refine pm_aload_n hC 0 (by decide) dX7_changePerson_7 rfl ?_
  have e2 : V0 4 3 = 6 := hV0.one 4 3 (by decide) (by decide) rfl
  refine pm_getf (v := 6) hC 4 fl_X7_23 rfl rfl (by decide) rfl e2 dX7_changePerson_8 ?_
  refine pm_iload_n hC 1 dX7_changePerson_11 rfl ?_
  refine pm_iload_n hC 3 dX7_changePerson_12 rfl ?_
  refine pm_iastore (len := 10) hC 6 rfl rfl (by decide) ⟨by omega, by omega⟩ (by decide) dX7_changePerson_13 ?_
  refine pm_aload_n hC 0 (by decide) dX7_changePerson_14 rfl ?_
  have e3 : V0 4 4 = 7 := hV0.one 4 4 (by decide) (by decide) rfl
  refine pm_getf (v := 7) hC 4 fl_X7_26 rfl rfl (by decide) rfl e3 dX7_changePerson_15 ?_
  refine pm_iload_n hC 1 dX7_changePerson_18 rfl ?_
  refine pm_iload hC 4 dX7_changePerson_19 rfl ?_
  refine pm_iastore (len := 10) hC 7 rfl rfl (by decide) ⟨by omega, by omega⟩ (by decide) dX7_changePerson_21 ?_
  exact pm_vret hC hR ⟨rfl, (((hV0.put 5 (a1 : Int).toNat (x := a2) (lo := (-30)) (hi := 30) rfl ⟨by omega, by omega⟩).put 6 (a1 : Int).toNat (x := a3) (lo := (-30)) (hi := 30) rfl ⟨by omega, by omega⟩).put 7 (a1 : Int).toNat (x := a4) (lo := 0) (hi := 16) rfl ⟨by omega, by omega⟩), ((((pm_fr.rf (ws := [5, 6, 7]) (V := V0)).up 5 (a1 : Int).toNat a2 rfl).up 6 (a1 : Int).toNat a3 rfl).up 7 (a1 : Int).toNat a4 rfl), hT⟩ dX7_changePerson_22
set_option maxHeartbeats 4000000 in
set_option maxRecDepth 100000 in
theorem fC_X7_addPerson (a1 a2 a3 a4 : Int) (h0 : (-30) ≤ a1 ∧ a1 ≤ 30) (h1 : (-30) ≤ a2 ∧ a2 ≤ 30) (h2 : 0 ≤ a3 ∧ a3 ≤ 16) (h3 : 0 ≤ a4 ∧ a4 ≤ 3) : pm_K 2 yX7_addPerson cX7_addPerson 5 (some .int) (fun av V => av = [(3, 4), (0, a1), (0, a2), (0, a3), (0, a4)] ∧ pm_ok 0 90 V) (fun _ V r V' => ∃ y, r = some (0, y) ∧ ((-1) ≤ y ∧ y ≤ 9) ∧ pm_ok 0 90 V' ∧ pm_fr [4, 5, 6, 7, 8] V V' ∧ F_X7_addPerson a1 a2 a3 a4 V = (y, V')) := by
  refine pm_MT.of (by decide) ⟨Nat.le_refl _, by decide⟩ (fun av V h => by rw [h.1]; exact (by decide : pm_words [(3, 0), (0, 0), (0, 0), (0, 0), (0, 0)] ≤ 5)) ?_
  rintro X av V0 hC - hR ⟨rfl, hV0⟩
  change pm_J X 0 [(0, (3, 4)), (1, (0, a1)), (2, (0, a2)), (3, (0, a3)), (4, (0, a4))] [] 118 V0
  have hT := F_X7_addPerson_eq a1 a2 a3 a4 V0
  refine pm_aload_n hC 0 (by decide) dX7_addPerson_0 rfl ?_
  obtain ⟨y1, e2⟩ : ∃ y, V0 4 1 = y := ⟨_, rfl⟩
  have b3 := hV0.get 4 1 (lo := 0) (hi := 10) (by decide) (by decide) rfl
  rw [e2] at b3
  replace hT := hT.trans (pf_let_eq e2)
  refine pm_getf (v := y1) hC 4 fl_X7_15 rfl rfl (by decide) rfl e2 dX7_addPerson_1 ?_
  refine pm_bipush (v := 10) hC dX7_addPerson_4 (by decide) ?_
  refine pm_icmp_lt (tgt := 11) hC ⟨by omega, by omega⟩ ⟨by decide, by decide⟩ dX7_addPerson_6 (by decide) (fun c4 => ?_) (fun c4 => ?_)
  · skip
    replace hT := hT.trans (if_pos c4)
    refine pm_aload_n hC 0 (by decide) dX7_addPerson_11 rfl ?_
    have e5 : V0 4 5 = 8 := hV0.one 4 5 (by decide) (by decide) rfl
    refine pm_getf (v := 8) hC 4 fl_X7_29 rfl rfl (by decide) rfl e5 dX7_addPerson_12 ?_
    refine pm_aload_n hC 0 (by decide) dX7_addPerson_15 rfl ?_
    refine pm_getf (v := y1) hC 4 fl_X7_15 rfl rfl (by decide) rfl e2 dX7_addPerson_16 ?_
    refine pm_iload hC 4 dX7_addPerson_19 rfl ?_
    refine pm_iastore (len := 10) hC 8 rfl rfl (by decide) ⟨by omega, by omega⟩ (by decide) dX7_addPerson_21 ?_
    refine pm_aload_n hC 0 (by decide) dX7_addPerson_22 rfl ?_
    refine pm_aload_n hC 0 (by decide) dX7_addPerson_23 rfl ?_
    refine pm_getf (v := y1) hC 4 fl_X7_15 rfl rfl (by decide) rfl e2 dX7_addPerson_24 ?_
    refine pm_iload_n hC 1 dX7_addPerson_27 rfl ?_
    refine pm_iload_n hC 2 dX7_addPerson_28 rfl ?_
    refine pm_iload_n hC 3 dX7_addPerson_29 rfl ?_
    refine pm_callV (ci := 7) (as := [(0, y1), (0, a1), (0, a2), (0, a3)]) (st := []) hC 4 (fC_X7_changePerson y1 a1 a2 a3 ⟨by omega, by omega⟩ ⟨by omega, by omega⟩ ⟨by omega, by omega⟩ ⟨by omega, by omega⟩) lm_X7_55 li_X7_changePerson (by decide) (by decide) rfl rfl rfl (by decide) rfl rfl (Nat.le_of_ble_eq_true rfl) ⟨Nat.le_refl _, Or.inl rfl⟩ dX7_addPerson_30 ⟨rfl, (hV0.put 8 (y1 : Int).toNat (x := a4) (lo := 0) (hi := 3) rfl ⟨by omega, by omega⟩)⟩ (fun r6 V7 hp8 => ?_)
    obtain ⟨rfl, hV9, hF10, hE11⟩ := hp8
    replace hT := hT.trans (pf_call_eq hE11)
    change pm_J X 33 [(0, (3, 4)), (1, (0, a1)), (2, (0, a2)), (3, (0, a3)), (4, (0, a4))] [] 118 V7
    have hF12 := pm_fr.tr ((pm_fr.rf (ws := [4, 5, 6, 7, 8]) (V := V0)).up 8 (y1 : Int).toNat a4 rfl) hF10 (by decide)
    have e13 : V7 4 1 = y1 := by rw [hF10 4 (by decide)]; exact e2
    have e14 : V7 4 5 = 8 := by rw [hF10 4 (by decide)]; exact e5
    refine pm_aload_n hC 0 (by decide) dX7_addPerson_33 rfl ?_
    refine pm_dup hC rfl dX7_addPerson_34 ?_
    refine pm_getf (v := y1) hC 4 fl_X7_15 rfl rfl (by decide) rfl e13 dX7_addPerson_35 ?_
    refine pm_iconst (v := 1) hC dX7_addPerson_38 ?_
    refine pm_iadd hC dX7_addPerson_39 ?_
    refine pm_putf hC 4 fl_X7_15 rfl rfl rfl (by decide) rfl trivial dX7_addPerson_40 ?_
    refine pm_aload_n hC 0 (by decide) dX7_addPerson_43 rfl ?_
    refine pm_getf (v := (y1 + 1)) hC 4 fl_X7_15 rfl rfl (by decide) rfl rfl dX7_addPerson_44 ?_
    refine pm_iconst (v := 1) hC dX7_addPerson_47 ?_
    refine pm_isub hC dX7_addPerson_48 ?_
    exact pm_iret hC hR pm_nar0 ⟨((y1 + 1) - 1), rfl, ⟨by omega, by omega⟩, (hV9.put 4 1 (x := (y1 + 1)) (lo := 0) (hi := 10) rfl ⟨by omega, by omega⟩), (hF12.up 4 1 (y1 + 1) rfl), hT⟩ dX7_addPerson_49
  · skip
    replace hT := hT.trans (if_neg (Int.not_lt.mpr c4))
    refine pm_iconst (v := (-1)) hC dX7_addPerson_9 ?_
    exact pm_iret hC hR pm_nar0 ⟨(-1), rfl, ⟨by omega, by omega⟩, hV0, (pm_fr.rf (ws := [4, 5, 6, 7, 8]) (V := V0)), hT⟩ dX7_addPerson_10
set_option maxHeartbeats 4000000 in
set_option maxRecDepth 100000 in
theorem fC_X7_begin (a1 : Int) (h0 : 0 ≤ a1 ∧ a1 ≤ 16) : pm_K 3 yX7_begin cX7_begin 2 none (fun av V => av = [(3, 4), (0, a1)] ∧ pm_ok 0 90 V) (fun _ V r V' => r = none ∧ pm_ok 0 90 V' ∧ pm_fr [4, 5, 6, 7, 8] V V' ∧ F_X7_begin a1 V = (0, V')) := by
  refine pm_MT.of (by decide) ⟨Nat.le_refl _, by decide⟩ (fun av V h => by rw [h.1]; exact (by decide : pm_words [(3, 0), (0, 0)] ≤ 2)) ?_
  rintro X av V0 hC - hR ⟨rfl, hV0⟩
  change pm_J X 0 [(0, (3, 4)), (1, (0, a1))] [] 118 V0
  have hT := F_X7_begin_eq a1 V0
  refine pm_aload_n hC 0 (by decide) dX7_begin_0 rfl ?_
  refine pm_iconst (v := 0) hC dX7_begin_1 ?_
  refine pm_putf hC 4 fl_X7_15 rfl rfl rfl (by decide) rfl trivial dX7_begin_2 ?_
  refine pm_aload_n hC 0 (by decide) dX7_begin_5 rfl ?_
  refine pm_iconst (v := 0) hC dX7_begin_6 ?_
  refine pm_putf hC 4 fl_X7_32 rfl rfl rfl (by decide) rfl trivial dX7_begin_7 ?_
  refine pm_aload_n hC 0 (by decide) dX7_begin_10 rfl ?_
  refine pm_iconst (v := 0) hC dX7_begin_11 ?_
  refine pm_iconst (v := 0) hC dX7_begin_12 ?_
  refine pm_iload_n hC 1 dX7_begin_13 rfl ?_
  refine pm_iconst (v := 0) hC dX7_begin_14 ?_
  refine pm_callV (ci := 7) (as := [(0, 0), (0, 0), (0, a1), (0, 0)]) (st := []) hC 4 (fC_X7_addPerson 0 0 a1 0 ⟨by decide, by decide⟩ ⟨by decide, by decide⟩ ⟨by omega, by omega⟩ ⟨by decide, by decide⟩) lm_X7_51 li_X7_addPerson (by decide) (by decide) rfl rfl rfl (by decide) rfl rfl (Nat.le_of_ble_eq_true rfl) ⟨Nat.le_refl _, Or.inl rfl⟩ dX7_begin_15 ⟨rfl, ((hV0.put 4 1 (x := 0) (lo := 0) (hi := 10) rfl ⟨by decide, by decide⟩).put 4 6 (x := 0) (lo := 0) (hi := 60) rfl ⟨by decide, by decide⟩)⟩ (fun r1 V2 hp3 => ?_)
  obtain ⟨y4, rfl, b5, hV6, hF7, hE8⟩ := hp3
  replace hT := hT.trans (pf_call_eq hE8)
  change pm_J X 18 [(0, (3, 4)), (1, (0, a1))] [(0, y4)] 118 V2
  have hF9 := pm_fr.tr (((pm_fr.rf (ws := [4, 5, 6, 7, 8]) (V := V0)).up 4 1 0 rfl).up 4 6 0 rfl) hF7 (by decide)
  refine pm_pop hC rfl dX7_begin_18 ?_
  exact pm_vret hC hR ⟨rfl, hV6, hF9, hT⟩ dX7_begin_19
set_option maxHeartbeats 4000000 in
set_option maxRecDepth 100000 in
theorem fC_X11_scene  : pm_K 7 yX11_scene cX11_scene 3 (some .int) (fun av V => av = [(3, 0)] ∧ pm_ok 0 90 V) (fun _ V r V' => ∃ y, r = some (0, y) ∧ ((-1) ≤ y ∧ y ≤ 9) ∧ pm_ok 0 90 V' ∧ pm_fr [0, 1, 3, 4, 5, 6, 7, 8, 15, 25, 35, 45, 46, 47, 48, 49, 50, 51, 52, 53, 54, 55, 56, 69, 70, 71] V V' ∧ (V 0 9 = 45 → ∃ z W, F_X6_read 45 V = (z, W) ∧ ((z = -1 ∧ 0 ≤ y ∧ V' 1 1 = 0) ∨ (z ≠ -1 ∧ y = -1 ∧ V' = W))) ∧ (V 0 9 = 51 → ∃ z W, F_X6_read 51 V = (z, W) ∧ ((z = -1 ∧ 0 ≤ y ∧ V' 1 1 = 0) ∨ (z ≠ -1 ∧ y = -1 ∧ V' = W))) ∧ F_X11_scene  V = (y, V')) := by
  refine pm_MT.of (by decide) ⟨Nat.le_refl _, by decide⟩ (fun av V h => by rw [h.1]; exact (by decide : pm_words [(3, 0)] ≤ 3)) ?_
  rintro X av V0 hC - hR ⟨rfl, hV0⟩
  change pm_J X 0 [(0, (3, 0))] [] 118 V0
  have hT := F_X11_scene_eq  V0
  refine pm_aload_n hC 0 (by decide) dX11_scene_0 rfl ?_
  have e1 : V0 0 1 = 69 := hV0.one 0 1 (by decide) (by decide) rfl
  refine pm_getf (v := 69) hC 0 fl_X11_57 rfl rfl (by decide) rfl e1 dX11_scene_1 ?_
  refine pm_aload_n hC 0 (by decide) dX11_scene_4 rfl ?_
  rcases hV0.get2 0 9 (lo := 45) (hi := 51) (by decide) (by decide) rfl with e2 | e2
  · skip
    replace hT := hT.trans (if_pos e2)
    refine pm_getf (v := 45) hC 0 fl_X11_39 rfl rfl (by decide) rfl e2 dX11_scene_5 ?_
    refine pm_callV (ci := 6) (as := [(3, 45)]) (st := []) hC 69 fC_X6_read_45 lm_X11_118 li_X6_read (by decide) (by decide) rfl rfl rfl (by decide) rfl rfl (Nat.le_of_ble_eq_true rfl) ⟨Nat.le_refl _, Or.inl rfl⟩ dX11_scene_8 ⟨rfl, hV0⟩ (fun r3 V4 hp5 => ?_)
    obtain ⟨y6, rfl, b7, hV8, hF9, hE10⟩ := hp5
    replace hT := hT.trans (pf_call_eq hE10)
    change pm_J X 11 [(0, (3, 0))] [(0, y6)] 118 V4
    have hF11 := pm_fr.tr (pm_fr.rf (ws := [0, 1, 3, 4, 5, 6, 7, 8, 15, 25, 35, 45, 46, 47, 48, 49, 50, 51, 52, 53, 54, 55, 56, 69, 70, 71]) (V := V0)) hF9 (by decide)
    have e12 : V4 0 1 = 69 := by rw [hF9 0 (by decide)]; exact e1
    have e13 : V4 0 9 = 45 := by rw [hF9 0 (by decide)]; exact e2
    refine pm_iconst (v := (-1)) hC dX11_scene_11 ?_
    refine pm_icmp_eq (tgt := 17) hC ⟨by omega, by omega⟩ ⟨by decide, by decide⟩ dX11_scene_12 (by decide) (fun c14 => ?_) (fun c14 => ?_)
    · skip
      replace hT := hT.trans (if_pos c14)
      refine pm_aload_n hC 0 (by decide) dX11_scene_17 rfl ?_
      rcases hV8.get2 0 8 (lo := 45) (hi := 51) (by decide) (by decide) rfl with e15 | e15
      · skip
        replace hT := hT.trans (if_pos e15)
        refine pm_getf (v := 45) hC 0 fl_X11_35 rfl rfl (by decide) rfl e15 dX11_scene_18 ?_
        refine pm_astore_n (lv' := [(1, (3, 45)), (0, (3, 0))]) hC (by decide) dX11_scene_21 (by decide) rfl ?_
        refine pm_aload_n hC 1 (by decide) dX11_scene_22 rfl ?_
        refine pm_aload_n hC 1 (by decide) dX11_scene_23 rfl ?_
        refine pm_getf (v := 45) hC 0 fl_X11_39 rfl rfl (by decide) rfl e13 dX11_scene_24 ?_
        refine pm_putf hC 0 fl_X11_35 rfl rfl rfl (by decide) rfl trivial dX11_scene_27 ?_
        refine pm_aload_n hC 1 (by decide) dX11_scene_30 rfl ?_
        refine pm_aload_n hC 0 (by decide) dX11_scene_31 rfl ?_
        refine pm_putf hC 0 fl_X11_39 rfl rfl rfl (by decide) rfl trivial dX11_scene_32 ?_
        refine pm_aload_n hC 1 (by decide) dX11_scene_35 rfl ?_
        have e16 : V4 0 0 = 1 := hV8.one 0 0 (by decide) (by decide) rfl
        refine pm_getf (v := 1) hC 0 fl_X11_10 rfl rfl (by decide) rfl e16 dX11_scene_36 ?_
        refine pm_iconst (v := 0) hC dX11_scene_39 ?_
        refine pm_putf hC 1 fl_X11_111 rfl rfl rfl (by decide) rfl trivial dX11_scene_40 ?_
        refine pm_aload_n hC 1 (by decide) dX11_scene_43 rfl ?_
        have e17 : V4 0 3 = 4 := hV8.one 0 3 (by decide) (by decide) rfl
        refine pm_getf (v := 4) hC 0 fl_X11_24 rfl rfl (by decide) rfl e17 dX11_scene_44 ?_
        refine pm_aload_n hC 1 (by decide) dX11_scene_47 rfl ?_
        refine pm_getf (v := 45) hC 0 fl_X11_35 rfl rfl (by decide) rfl rfl dX11_scene_48 ?_
        obtain ⟨y18, e19⟩ : ∃ y, V4 45 8 = y := ⟨_, rfl⟩
        have b20 := hV8.get 45 8 (lo := 0) (hi := 16) (by decide) (by decide) rfl
        rw [e19] at b20
        replace hT := hT.trans (pf_let_eq e19)
        refine pm_getf (v := y18) hC 45 fl_X11_126 rfl rfl (by decide) rfl e19 dX11_scene_51 ?_
        refine pm_callV (ci := 7) (as := [(0, y18)]) (st := []) hC 4 (fC_X7_begin y18 ⟨by omega, by omega⟩) lm_X11_129 li_X7_begin (by decide) (by decide) rfl rfl rfl (by decide) rfl rfl (Nat.le_of_ble_eq_true rfl) ⟨Nat.le_refl _, Or.inl rfl⟩ dX11_scene_54 ⟨rfl, (((hV8.put2 0 8 (x := 45) (lo := 45) (hi := 51) rfl ⟨by omega, by decide⟩).put2 0 9 (x := 45) (lo := 45) (hi := 51) rfl ⟨by omega, by decide⟩).put 1 1 (x := 0) (lo := 0) (hi := 500) rfl ⟨by decide, by decide⟩)⟩ (fun r21 V22 hp23 => ?_)
        obtain ⟨rfl, hV24, hF25, hE26⟩ := hp23
        replace hT := hT.trans (pf_call_eq hE26)
        change pm_J X 57 [(1, (3, 45)), (0, (3, 0))] [] 118 V22
        have hF27 := pm_fr.tr (((hF11.up 0 8 45 rfl).up 0 9 45 rfl).up 1 1 0 rfl) hF25 (by decide)
        have e28 : V22 0 1 = 69 := by rw [hF25 0 (by decide)]; exact e12
        have e29 : V22 0 0 = 1 := by rw [hF25 0 (by decide)]; exact e16
        have e30 : V22 0 3 = 4 := by rw [hF25 0 (by decide)]; exact e17
        have e31 : V22 45 8 = y18 := by rw [hF25 45 (by decide)]; exact e19
        have e32 : V22 0 8 = 45 := by rw [hF25 0 (by decide)]; rfl
        have e33 : V22 0 9 = 45 := by rw [hF25 0 (by decide)]; rfl
        have e34 : V22 1 1 = 0 := by rw [hF25 1 (by decide)]; rfl
        refine pm_iconst (v := 0) hC dX11_scene_57 ?_
        refine pm_istore_n (lv' := [(2, (0, 0)), (1, (3, 45)), (0, (3, 0))]) hC dX11_scene_58 (by decide) rfl ?_
        obtain ⟨B47, hB48, hT⟩ := pf_loop hT
        have L50 : ∀ (N52 : Nat) (x35 : Int) (V37 : pm_M), (0 ≤ x35 ∧ x35 ≤ 3) → pm_ok 0 90 V37 → pm_fr [0, 1, 3, 4, 5, 6, 7, 8, 15, 25, 35, 45, 46, 47, 48, 49, 50, 51, 52, 53, 54, 55, 56, 69, 70, 71] V0 V37 → V37 0 1 = 69 → V37 0 0 = 1 → V37 0 3 = 4 → V37 45 8 = y18 → V37 0 8 = 45 → V37 0 9 = 45 → V37 1 1 = 0 → F_X11_scene  V0 = pf_val ((0 : Int), V0) B47 (x35, V37) → (Int.toNat (3 - x35)) = N52 → pm_J X 59 [(0, (3, 0)), (1, (3, 45)), (2, (0, x35))] [] 118 V37 := by
          intro N52
          induction N52 using Nat.strongRecOn with
          | _ N52 ih53 =>
          intro x35 V37 b36 hV38 hF39 e40 e41 e42 e43 e44 e45 e46 hT hm51
          have hb49 := congrFun hB48 (x35, V37)
          refine pm_iload_n hC 2 dX11_scene_59 rfl ?_
          refine pm_iconst (v := 3) hC dX11_scene_60 ?_
          refine pm_icmp_ge (tgt := 80) hC ⟨by omega, by omega⟩ ⟨by decide, by decide⟩ dX11_scene_61 (by decide) (fun c54 => ?_) (fun c54 => ?_)
          · skip
            replace hb49 := hb49.trans (if_pos c54)
            refine pm_aload_n hC 0 (by decide) dX11_scene_80 rfl ?_
            refine pm_getf (v := 45) hC 0 fl_X11_35 rfl rfl (by decide) rfl e44 dX11_scene_81 ?_
            obtain ⟨y55, e56⟩ : ∃ y, V37 45 0 = y := ⟨_, rfl⟩
            have b57 := hV38.get 45 0 (lo := 0) (hi := 9) (by decide) (by decide) rfl
            rw [e56] at b57
            replace hb49 := hb49.trans (pf_let_eq e56)
            refine pm_getf (v := y55) hC 45 fl_X11_136 rfl rfl (by decide) rfl e56 dX11_scene_84 ?_
            have hT := hT.trans (pf_val_inr hb49)
            exact pm_iret hC hR pm_nar0 ⟨y55, rfl, ⟨by omega, by omega⟩, hV38, hF39, (fun _ => ⟨y6, V4, hE10, Or.inl ⟨by omega, by omega, (show V37 1 1 = 0 from e46)⟩⟩), (fun q => absurd (((congrFun (hF9 0 (by decide)) 9).symm.trans e13).symm.trans q) (by decide)), hT⟩ dX11_scene_87
          · skip
            replace hb49 := hb49.trans (if_neg (Int.not_le.mpr c54))
            refine pm_aload_n hC 0 (by decide) dX11_scene_64 rfl ?_
            have e58 : V37 0 4 = 14 := hV38.one 0 4 (by decide) (by decide) rfl
            refine pm_getf (v := 14) hC 0 fl_X11_28 rfl rfl (by decide) rfl e58 dX11_scene_65 ?_
            refine pm_iload_n hC 2 dX11_scene_68 rfl ?_
            rcases (show x35 = (0 : Int) ∨ x35 = (1 : Int) ∨ x35 = (2 : Int) by omega) with hk | hk | hk
            · skip
              have e59 : V37 14 (x35 : Int).toNat = 15 := by rw [hk]; exact hV38.one 14 0 (by decide) (by decide) rfl
              replace hb49 := hb49.trans (if_pos hk)
              refine pm_aaload (len := 3) (v := 15) hC 14 rfl rfl (by decide) ⟨by omega, by omega⟩ (by decide) e59 dX11_scene_69 ?_
              refine pm_iconst (v := 0) hC dX11_scene_70 ?_
              refine pm_putf hC 15 fl_X11_132 rfl rfl rfl (by decide) rfl (by show _ = (0 : Int) ∨ _ = (1 : Int); omega) dX11_scene_71 ?_
              obtain ⟨x60, ei61⟩ : ∃ y : Int, x35 + 1 = y := ⟨_, rfl⟩
              replace hb49 := hb49.trans (pf_let_eq ei61)
              refine pm_iinc (y := x60) (lv' := [(2, (0, x60)), (0, (3, 0)), (1, (3, 45))]) hC 2 dX11_scene_74 (by decide) rfl ei61 rfl ?_
              refine pm_goto (tgt := 59) hC dX11_scene_77 (by decide) ?_
              refine pm_lvsub [1, 2, 0] (lv' := [(0, (3, 0)), (1, (3, 45)), (2, (0, x60))]) rfl ?_
              exact ih53 _ (by omega) x60 (pm_up V37 15 0 0) ⟨by omega, by omega⟩ (hV38.put 15 0 (x := 0) (lo := 0) (hi := 1) rfl ⟨by decide, by decide⟩) (hF39.up 15 0 0 rfl) e40 e41 e42 e43 e44 e45 e46 (hT.trans (pf_val_inl hb49)) rfl
            · skip
              have e62 : V37 14 (x35 : Int).toNat = 25 := by rw [hk]; exact hV38.one 14 1 (by decide) (by decide) rfl
              replace hb49 := hb49.trans (if_neg (by omega))
              replace hb49 := hb49.trans (if_pos hk)
              refine pm_aaload (len := 3) (v := 25) hC 14 rfl rfl (by decide) ⟨by omega, by omega⟩ (by decide) e62 dX11_scene_69 ?_
              refine pm_iconst (v := 0) hC dX11_scene_70 ?_
              refine pm_putf hC 25 fl_X11_132 rfl rfl rfl (by decide) rfl (by show _ = (0 : Int) ∨ _ = (1 : Int); omega) dX11_scene_71 ?_
              obtain ⟨x63, ei64⟩ : ∃ y : Int, x35 + 1 = y := ⟨_, rfl⟩
              replace hb49 := hb49.trans (pf_let_eq ei64)
              refine pm_iinc (y := x63) (lv' := [(2, (0, x63)), (0, (3, 0)), (1, (3, 45))]) hC 2 dX11_scene_74 (by decide) rfl ei64 rfl ?_
              refine pm_goto (tgt := 59) hC dX11_scene_77 (by decide) ?_
              refine pm_lvsub [1, 2, 0] (lv' := [(0, (3, 0)), (1, (3, 45)), (2, (0, x63))]) rfl ?_
              exact ih53 _ (by omega) x63 (pm_up V37 25 0 0) ⟨by omega, by omega⟩ (hV38.put 25 0 (x := 0) (lo := 0) (hi := 1) rfl ⟨by decide, by decide⟩) (hF39.up 25 0 0 rfl) e40 e41 e42 e43 e44 e45 e46 (hT.trans (pf_val_inl hb49)) rfl
            · skip
              have e65 : V37 14 (x35 : Int).toNat = 35 := by rw [hk]; exact hV38.one 14 2 (by decide) (by decide) rfl
              replace hb49 := hb49.trans (if_neg (by omega))
              replace hb49 := hb49.trans (if_neg (by omega))
              refine pm_aaload (len := 3) (v := 35) hC 14 rfl rfl (by decide) ⟨by omega, by omega⟩ (by decide) e65 dX11_scene_69 ?_
              refine pm_iconst (v := 0) hC dX11_scene_70 ?_
              refine pm_putf hC 35 fl_X11_132 rfl rfl rfl (by decide) rfl (by show _ = (0 : Int) ∨ _ = (1 : Int); omega) dX11_scene_71 ?_
              obtain ⟨x66, ei67⟩ : ∃ y : Int, x35 + 1 = y := ⟨_, rfl⟩
              replace hb49 := hb49.trans (pf_let_eq ei67)
              refine pm_iinc (y := x66) (lv' := [(2, (0, x66)), (0, (3, 0)), (1, (3, 45))]) hC 2 dX11_scene_74 (by decide) rfl ei67 rfl ?_
              refine pm_goto (tgt := 59) hC dX11_scene_77 (by decide) ?_
              refine pm_lvsub [1, 2, 0] (lv' := [(0, (3, 0)), (1, (3, 45)), (2, (0, x66))]) rfl ?_
              exact ih53 _ (by omega) x66 (pm_up V37 35 0 0) ⟨by omega, by omega⟩ (hV38.put 35 0 (x := 0) (lo := 0) (hi := 1) rfl ⟨by decide, by decide⟩) (hF39.up 35 0 0 rfl) e40 e41 e42 e43 e44 e45 e46 (hT.trans (pf_val_inl hb49)) rfl
        refine pm_lvsub [2, 1, 0] (lv' := [(0, (3, 0)), (1, (3, 45)), (2, (0, 0))]) rfl ?_
        exact L50 _ 0 V22 ⟨by decide, by decide⟩ hV24 hF27 e28 e29 e30 e31 e32 e33 e34 hT rfl
      · skip
        replace hT := hT.trans (if_neg (by rw [e15]; decide))
        refine pm_getf (v := 51) hC 0 fl_X11_35 rfl rfl (by decide) rfl e15 dX11_scene_18 ?_
        refine pm_astore_n (lv' := [(1, (3, 51)), (0, (3, 0))]) hC (by decide) dX11_scene_21 (by decide) rfl ?_
        refine pm_aload_n hC 1 (by decide) dX11_scene_22 rfl ?_
        refine pm_aload_n hC 1 (by decide) dX11_scene_23 rfl ?_
        refine pm_getf (v := 45) hC 0 fl_X11_39 rfl rfl (by decide) rfl e13 dX11_scene_24 ?_
        refine pm_putf hC 0 fl_X11_35 rfl rfl rfl (by decide) rfl trivial dX11_scene_27 ?_
        refine pm_aload_n hC 1 (by decide) dX11_scene_30 rfl ?_
        refine pm_aload_n hC 0 (by decide) dX11_scene_31 rfl ?_
        refine pm_putf hC 0 fl_X11_39 rfl rfl rfl (by decide) rfl trivial dX11_scene_32 ?_
        refine pm_aload_n hC 1 (by decide) dX11_scene_35 rfl ?_
        have e68 : V4 0 0 = 1 := hV8.one 0 0 (by decide) (by decide) rfl
        refine pm_getf (v := 1) hC 0 fl_X11_10 rfl rfl (by decide) rfl e68 dX11_scene_36 ?_
        refine pm_iconst (v := 0) hC dX11_scene_39 ?_
        refine pm_putf hC 1 fl_X11_111 rfl rfl rfl (by decide) rfl trivial dX11_scene_40 ?_
        refine pm_aload_n hC 1 (by decide) dX11_scene_43 rfl ?_
        have e69 : V4 0 3 = 4 := hV8.one 0 3 (by decide) (by decide) rfl
        refine pm_getf (v := 4) hC 0 fl_X11_24 rfl rfl (by decide) rfl e69 dX11_scene_44 ?_
        refine pm_aload_n hC 1 (by decide) dX11_scene_47 rfl ?_
        refine pm_getf (v := 45) hC 0 fl_X11_35 rfl rfl (by decide) rfl rfl dX11_scene_48 ?_
        obtain ⟨y70, e71⟩ : ∃ y, V4 45 8 = y := ⟨_, rfl⟩
        have b72 := hV8.get 45 8 (lo := 0) (hi := 16) (by decide) (by decide) rfl
        rw [e71] at b72
        replace hT := hT.trans (pf_let_eq e71)
        refine pm_getf (v := y70) hC 45 fl_X11_126 rfl rfl (by decide) rfl e71 dX11_scene_51 ?_
        refine pm_callV (ci := 7) (as := [(0, y70)]) (st := []) hC 4 (fC_X7_begin y70 ⟨by omega, by omega⟩) lm_X11_129 li_X7_begin (by decide) (by decide) rfl rfl rfl (by decide) rfl rfl (Nat.le_of_ble_eq_true rfl) ⟨Nat.le_refl _, Or.inl rfl⟩ dX11_scene_54 ⟨rfl, (((hV8.put2 0 8 (x := 45) (lo := 45) (hi := 51) rfl ⟨by omega, by decide⟩).put2 0 9 (x := 51) (lo := 45) (hi := 51) rfl ⟨by omega, by decide⟩).put 1 1 (x := 0) (lo := 0) (hi := 500) rfl ⟨by decide, by decide⟩)⟩ (fun r73 V74 hp75 => ?_)
        obtain ⟨rfl, hV76, hF77, hE78⟩ := hp75
        replace hT := hT.trans (pf_call_eq hE78)
        change pm_J X 57 [(1, (3, 51)), (0, (3, 0))] [] 118 V74
        have hF79 := pm_fr.tr (((hF11.up 0 8 45 rfl).up 0 9 51 rfl).up 1 1 0 rfl) hF77 (by decide)
        have e80 : V74 0 1 = 69 := by rw [hF77 0 (by decide)]; exact e12
        have e81 : V74 0 0 = 1 := by rw [hF77 0 (by decide)]; exact e68
        have e82 : V74 0 3 = 4 := by rw [hF77 0 (by decide)]; exact e69
        have e83 : V74 45 8 = y70 := by rw [hF77 45 (by decide)]; exact e71
        have e84 : V74 0 8 = 45 := by rw [hF77 0 (by decide)]; rfl
        have e85 : V74 0 9 = 51 := by rw [hF77 0 (by decide)]; rfl
        have e86 : V74 1 1 = 0 := by rw [hF77 1 (by decide)]; rfl
        refine pm_iconst (v := 0) hC dX11_scene_57 ?_
        refine pm_istore_n (lv' := [(2, (0, 0)), (1, (3, 51)), (0, (3, 0))]) hC dX11_scene_58 (by decide) rfl ?_
        obtain ⟨B99, hB100, hT⟩ := pf_loop hT
        have L102 : ∀ (N104 : Nat) (x87 : Int) (V89 : pm_M), (0 ≤ x87 ∧ x87 ≤ 3) → pm_ok 0 90 V89 → pm_fr [0, 1, 3, 4, 5, 6, 7, 8, 15, 25, 35, 45, 46, 47, 48, 49, 50, 51, 52, 53, 54, 55, 56, 69, 70, 71] V0 V89 → V89 0 1 = 69 → V89 0 0 = 1 → V89 0 3 = 4 → V89 45 8 = y70 → V89 0 8 = 45 → V89 0 9 = 51 → V89 1 1 = 0 → F_X11_scene  V0 = pf_val ((0 : Int), V0) B99 (x87, V89) → (Int.toNat (3 - x87)) = N104 → pm_J X 59 [(0, (3, 0)), (1, (3, 51)), (2, (0, x87))] [] 118 V89 := by
          intro N104
          induction N104 using Nat.strongRecOn with
          | _ N104 ih105 =>
          intro x87 V89 b88 hV90 hF91 e92 e93 e94 e95 e96 e97 e98 hT hm103
          have hb101 := congrFun hB100 (x87, V89)
          refine pm_iload_n hC 2 dX11_scene_59 rfl ?_
          refine pm_iconst (v := 3) hC dX11_scene_60 ?_
          refine pm_icmp_ge (tgt := 80) hC ⟨by omega, by omega⟩ ⟨by decide, by decide⟩ dX11_scene_61 (by decide) (fun c106 => ?_) (fun c106 => ?_)
          · skip
            replace hb101 := hb101.trans (if_pos c106)
            refine pm_aload_n hC 0 (by decide) dX11_scene_80 rfl ?_
            refine pm_getf (v := 45) hC 0 fl_X11_35 rfl rfl (by decide) rfl e96 dX11_scene_81 ?_
            obtain ⟨y107, e108⟩ : ∃ y, V89 45 0 = y := ⟨_, rfl⟩
            have b109 := hV90.get 45 0 (lo := 0) (hi := 9) (by decide) (by decide) rfl
            rw [e108] at b109
            replace hb101 := hb101.trans (pf_let_eq e108)
            refine pm_getf (v := y107) hC 45 fl_X11_136 rfl rfl (by decide) rfl e108 dX11_scene_84 ?_
            have hT := hT.trans (pf_val_inr hb101)
            exact pm_iret hC hR pm_nar0 ⟨y107, rfl, ⟨by omega, by omega⟩, hV90, hF91, (fun _ => ⟨y6, V4, hE10, Or.inl ⟨by omega, by omega, (show V89 1 1 = 0 from e98)⟩⟩), (fun q => absurd (((congrFun (hF9 0 (by decide)) 9).symm.trans e13).symm.trans q) (by decide)), hT⟩ dX11_scene_87
          · skip
            replace hb101 := hb101.trans (if_neg (Int.not_le.mpr c106))
            refine pm_aload_n hC 0 (by decide) dX11_scene_64 rfl ?_
            have e110 : V89 0 4 = 14 := hV90.one 0 4 (by decide) (by decide) rfl
            refine pm_getf (v := 14) hC 0 fl_X11_28 rfl rfl (by decide) rfl e110 dX11_scene_65 ?_
            refine pm_iload_n hC 2 dX11_scene_68 rfl ?_
            rcases (show x87 = (0 : Int) ∨ x87 = (1 : Int) ∨ x87 = (2 : Int) by omega) with hk | hk | hk
            · skip
              have e111 : V89 14 (x87 : Int).toNat = 15 := by rw [hk]; exact hV90.one 14 0 (by decide) (by decide) rfl
              replace hb101 := hb101.trans (if_pos hk)
              refine pm_aaload (len := 3) (v := 15) hC 14 rfl rfl (by decide) ⟨by omega, by omega⟩ (by decide) e111 dX11_scene_69 ?_
              refine pm_iconst (v := 0) hC dX11_scene_70 ?_
              refine pm_putf hC 15 fl_X11_132 rfl rfl rfl (by decide) rfl (by show _ = (0 : Int) ∨ _ = (1 : Int); omega) dX11_scene_71 ?_
              obtain ⟨x112, ei113⟩ : ∃ y : Int, x87 + 1 = y := ⟨_, rfl⟩
              replace hb101 := hb101.trans (pf_let_eq ei113)
              refine pm_iinc (y := x112) (lv' := [(2, (0, x112)), (0, (3, 0)), (1, (3, 51))]) hC 2 dX11_scene_74 (by decide) rfl ei113 rfl ?_
              refine pm_goto (tgt := 59) hC dX11_scene_77 (by decide) ?_
              refine pm_lvsub [1, 2, 0] (lv' := [(0, (3, 0)), (1, (3, 51)), (2, (0, x112))]) rfl ?_
              exact ih105 _ (by omega) x112 (pm_up V89 15 0 0) ⟨by omega, by omega⟩ (hV90.put 15 0 (x := 0) (lo := 0) (hi := 1) rfl ⟨by decide, by decide⟩) (hF91.up 15 0 0 rfl) e92 e93 e94 e95 e96 e97 e98 (hT.trans (pf_val_inl hb101)) rfl
            · skip
              have e114 : V89 14 (x87 : Int).toNat = 25 := by rw [hk]; exact hV90.one 14 1 (by decide) (by decide) rfl
              replace hb101 := hb101.trans (if_neg (by omega))
              replace hb101 := hb101.trans (if_pos hk)
              refine pm_aaload (len := 3) (v := 25) hC 14 rfl rfl (by decide) ⟨by omega, by omega⟩ (by decide) e114 dX11_scene_69 ?_
              refine pm_iconst (v := 0) hC dX11_scene_70 ?_
              refine pm_putf hC 25 fl_X11_132 rfl rfl rfl (by decide) rfl (by show _ = (0 : Int) ∨ _ = (1 : Int); omega) dX11_scene_71 ?_
              obtain ⟨x115, ei116⟩ : ∃ y : Int, x87 + 1 = y := ⟨_, rfl⟩
              replace hb101 := hb101.trans (pf_let_eq ei116)
              refine pm_iinc (y := x115) (lv' := [(2, (0, x115)), (0, (3, 0)), (1, (3, 51))]) hC 2 dX11_scene_74 (by decide) rfl ei116 rfl ?_
              refine pm_goto (tgt := 59) hC dX11_scene_77 (by decide) ?_
              refine pm_lvsub [1, 2, 0] (lv' := [(0, (3, 0)), (1, (3, 51)), (2, (0, x115))]) rfl ?_
              exact ih105 _ (by omega) x115 (pm_up V89 25 0 0) ⟨by omega, by omega⟩ (hV90.put 25 0 (x := 0) (lo := 0) (hi := 1) rfl ⟨by decide, by decide⟩) (hF91.up 25 0 0 rfl) e92 e93 e94 e95 e96 e97 e98 (hT.trans (pf_val_inl hb101)) rfl
            · skip
              have e117 : V89 14 (x87 : Int).toNat = 35 := by rw [hk]; exact hV90.one 14 2 (by decide) (by decide) rfl
              replace hb101 := hb101.trans (if_neg (by omega))
              replace hb101 := hb101.trans (if_neg (by omega))
              refine pm_aaload (len := 3) (v := 35) hC 14 rfl rfl (by decide) ⟨by omega, by omega⟩ (by decide) e117 dX11_scene_69 ?_
              refine pm_iconst (v := 0) hC dX11_scene_70 ?_
              refine pm_putf hC 35 fl_X11_132 rfl rfl rfl (by decide) rfl (by show _ = (0 : Int) ∨ _ = (1 : Int); omega) dX11_scene_71 ?_
              obtain ⟨x118, ei119⟩ : ∃ y : Int, x87 + 1 = y := ⟨_, rfl⟩
              replace hb101 := hb101.trans (pf_let_eq ei119)
              refine pm_iinc (y := x118) (lv' := [(2, (0, x118)), (0, (3, 0)), (1, (3, 51))]) hC 2 dX11_scene_74 (by decide) rfl ei119 rfl ?_
              refine pm_goto (tgt := 59) hC dX11_scene_77 (by decide) ?_
              refine pm_lvsub [1, 2, 0] (lv' := [(0, (3, 0)), (1, (3, 51)), (2, (0, x118))]) rfl ?_
              exact ih105 _ (by omega) x118 (pm_up V89 35 0 0) ⟨by omega, by omega⟩ (hV90.put 35 0 (x := 0) (lo := 0) (hi := 1) rfl ⟨by decide, by decide⟩) (hF91.up 35 0 0 rfl) e92 e93 e94 e95 e96 e97 e98 (hT.trans (pf_val_inl hb101)) rfl
        refine pm_lvsub [2, 1, 0] (lv' := [(0, (3, 0)), (1, (3, 51)), (2, (0, 0))]) rfl ?_
        exact L102 _ 0 V74 ⟨by decide, by decide⟩ hV76 hF79 e80 e81 e82 e83 e84 e85 e86 hT rfl
    · skip
      replace hT := hT.trans (if_neg c14)
      refine pm_iconst (v := (-1)) hC dX11_scene_15 ?_
      exact pm_iret hC hR pm_nar0 ⟨(-1), rfl, ⟨by omega, by omega⟩, hV8, hF11, (fun _ => ⟨y6, V4, hE10, Or.inr ⟨by omega, rfl, rfl⟩⟩), (fun q => absurd (((congrFun (hF9 0 (by decide)) 9).symm.trans e13).symm.trans q) (by decide)), hT⟩ dX11_scene_16
  · skip
    replace hT := hT.trans (if_neg (by rw [e2]; decide))
    refine pm_getf (v := 51) hC 0 fl_X11_39 rfl rfl (by decide) rfl e2 dX11_scene_5 ?_
    refine pm_callV (ci := 6) (as := [(3, 51)]) (st := []) hC 69 fC_X6_read_51 lm_X11_118 li_X6_read (by decide) (by decide) rfl rfl rfl (by decide) rfl rfl (Nat.le_of_ble_eq_true rfl) ⟨Nat.le_refl _, Or.inl rfl⟩ dX11_scene_8 ⟨rfl, hV0⟩ (fun r120 V121 hp122 => ?_)
    obtain ⟨y123, rfl, b124, hV125, hF126, hE127⟩ := hp122
    replace hT := hT.trans (pf_call_eq hE127)
    change pm_J X 11 [(0, (3, 0))] [(0, y123)] 118 V121
    have hF128 := pm_fr.tr (pm_fr.rf (ws := [0, 1, 3, 4, 5, 6, 7, 8, 15, 25, 35, 45, 46, 47, 48, 49, 50, 51, 52, 53, 54, 55, 56, 69, 70, 71]) (V := V0)) hF126 (by decide)
    have e129 : V121 0 1 = 69 := by rw [hF126 0 (by decide)]; exact e1
    have e130 : V121 0 9 = 51 := by rw [hF126 0 (by decide)]; exact e2
    refine pm_iconst (v := (-1)) hC dX11_scene_11 ?_
    refine pm_icmp_eq (tgt := 17) hC ⟨by omega, by omega⟩ ⟨by decide, by decide⟩ dX11_scene_12 (by decide) (fun c131 => ?_) (fun c131 => ?_)
    · skip
      replace hT := hT.trans (if_pos c131)
      refine pm_aload_n hC 0 (by decide) dX11_scene_17 rfl ?_
      rcases hV125.get2 0 8 (lo := 45) (hi := 51) (by decide) (by decide) rfl with e132 | e132
      · skip
        replace hT := hT.trans (if_pos e132)
        refine pm_getf (v := 45) hC 0 fl_X11_35 rfl rfl (by decide) rfl e132 dX11_scene_18 ?_
        refine pm_astore_n (lv' := [(1, (3, 45)), (0, (3, 0))]) hC (by decide) dX11_scene_21 (by decide) rfl ?_
        refine pm_aload_n hC 1 (by decide) dX11_scene_22 rfl ?_
        refine pm_aload_n hC 1 (by decide) dX11_scene_23 rfl ?_
        refine pm_getf (v := 51) hC 0 fl_X11_39 rfl rfl (by decide) rfl e130 dX11_scene_24 ?_
        refine pm_putf hC 0 fl_X11_35 rfl rfl rfl (by decide) rfl trivial dX11_scene_27 ?_
        refine pm_aload_n hC 1 (by decide) dX11_scene_30 rfl ?_
        refine pm_aload_n hC 0 (by decide) dX11_scene_31 rfl ?_
        refine pm_putf hC 0 fl_X11_39 rfl rfl rfl (by decide) rfl trivial dX11_scene_32 ?_
        refine pm_aload_n hC 1 (by decide) dX11_scene_35 rfl ?_
        have e133 : V121 0 0 = 1 := hV125.one 0 0 (by decide) (by decide) rfl
        refine pm_getf (v := 1) hC 0 fl_X11_10 rfl rfl (by decide) rfl e133 dX11_scene_36 ?_
        refine pm_iconst (v := 0) hC dX11_scene_39 ?_
        refine pm_putf hC 1 fl_X11_111 rfl rfl rfl (by decide) rfl trivial dX11_scene_40 ?_
        refine pm_aload_n hC 1 (by decide) dX11_scene_43 rfl ?_
        have e134 : V121 0 3 = 4 := hV125.one 0 3 (by decide) (by decide) rfl
        refine pm_getf (v := 4) hC 0 fl_X11_24 rfl rfl (by decide) rfl e134 dX11_scene_44 ?_
        refine pm_aload_n hC 1 (by decide) dX11_scene_47 rfl ?_
        refine pm_getf (v := 51) hC 0 fl_X11_35 rfl rfl (by decide) rfl rfl dX11_scene_48 ?_
        obtain ⟨y135, e136⟩ : ∃ y, V121 51 8 = y := ⟨_, rfl⟩
        have b137 := hV125.get 51 8 (lo := 0) (hi := 16) (by decide) (by decide) rfl
        rw [e136] at b137
        replace hT := hT.trans (pf_let_eq e136)
        refine pm_getf (v := y135) hC 51 fl_X11_126 rfl rfl (by decide) rfl e136 dX11_scene_51 ?_
        refine pm_callV (ci := 7) (as := [(0, y135)]) (st := []) hC 4 (fC_X7_begin y135 ⟨by omega, by omega⟩) lm_X11_129 li_X7_begin (by decide) (by decide) rfl rfl rfl (by decide) rfl rfl (Nat.le_of_ble_eq_true rfl) ⟨Nat.le_refl _, Or.inl rfl⟩ dX11_scene_54 ⟨rfl, (((hV125.put2 0 8 (x := 51) (lo := 45) (hi := 51) rfl ⟨by omega, by decide⟩).put2 0 9 (x := 45) (lo := 45) (hi := 51) rfl ⟨by omega, by decide⟩).put 1 1 (x := 0) (lo := 0) (hi := 500) rfl ⟨by decide, by decide⟩)⟩ (fun r138 V139 hp140 => ?_)
        obtain ⟨rfl, hV141, hF142, hE143⟩ := hp140
        replace hT := hT.trans (pf_call_eq hE143)
        change pm_J X 57 [(1, (3, 45)), (0, (3, 0))] [] 118 V139
        have hF144 := pm_fr.tr (((hF128.up 0 8 51 rfl).up 0 9 45 rfl).up 1 1 0 rfl) hF142 (by decide)
        have e145 : V139 0 1 = 69 := by rw [hF142 0 (by decide)]; exact e129
        have e146 : V139 0 0 = 1 := by rw [hF142 0 (by decide)]; exact e133
        have e147 : V139 0 3 = 4 := by rw [hF142 0 (by decide)]; exact e134
        have e148 : V139 51 8 = y135 := by rw [hF142 51 (by decide)]; exact e136
        have e149 : V139 0 8 = 51 := by rw [hF142 0 (by decide)]; rfl
        have e150 : V139 0 9 = 45 := by rw [hF142 0 (by decide)]; rfl
        have e151 : V139 1 1 = 0 := by rw [hF142 1 (by decide)]; rfl
        refine pm_iconst (v := 0) hC dX11_scene_57 ?_
        refine pm_istore_n (lv' := [(2, (0, 0)), (1, (3, 45)), (0, (3, 0))]) hC dX11_scene_58 (by decide) rfl ?_
        obtain ⟨B164, hB165, hT⟩ := pf_loop hT
        have L167 : ∀ (N169 : Nat) (x152 : Int) (V154 : pm_M), (0 ≤ x152 ∧ x152 ≤ 3) → pm_ok 0 90 V154 → pm_fr [0, 1, 3, 4, 5, 6, 7, 8, 15, 25, 35, 45, 46, 47, 48, 49, 50, 51, 52, 53, 54, 55, 56, 69, 70, 71] V0 V154 → V154 0 1 = 69 → V154 0 0 = 1 → V154 0 3 = 4 → V154 51 8 = y135 → V154 0 8 = 51 → V154 0 9 = 45 → V154 1 1 = 0 → F_X11_scene  V0 = pf_val ((0 : Int), V0) B164 (x152, V154) → (Int.toNat (3 - x152)) = N169 → pm_J X 59 [(0, (3, 0)), (1, (3, 45)), (2, (0, x152))] [] 118 V154 := by
          intro N169
          induction N169 using Nat.strongRecOn with
          | _ N169 ih170 =>
          intro x152 V154 b153 hV155 hF156 e157 e158 e159 e160 e161 e162 e163 hT hm168
          have hb166 := congrFun hB165 (x152, V154)
          refine pm_iload_n hC 2 dX11_scene_59 rfl ?_
          refine pm_iconst (v := 3) hC dX11_scene_60 ?_
          refine pm_icmp_ge (tgt := 80) hC ⟨by omega, by omega⟩ ⟨by decide, by decide⟩ dX11_scene_61 (by decide) (fun c171 => ?_) (fun c171 => ?_)
          · skip
            replace hb166 := hb166.trans (if_pos c171)
            refine pm_aload_n hC 0 (by decide) dX11_scene_80 rfl ?_
            refine pm_getf (v := 51) hC 0 fl_X11_35 rfl rfl (by decide) rfl e161 dX11_scene_81 ?_
            obtain ⟨y172, e173⟩ : ∃ y, V154 51 0 = y := ⟨_, rfl⟩
            have b174 := hV155.get 51 0 (lo := 0) (hi := 9) (by decide) (by decide) rfl
            rw [e173] at b174
            replace hb166 := hb166.trans (pf_let_eq e173)
            refine pm_getf (v := y172) hC 51 fl_X11_136 rfl rfl (by decide) rfl e173 dX11_scene_84 ?_
            have hT := hT.trans (pf_val_inr hb166)
            exact pm_iret hC hR pm_nar0 ⟨y172, rfl, ⟨by omega, by omega⟩, hV155, hF156, (fun q => absurd (((congrFun (hF126 0 (by decide)) 9).symm.trans e130).symm.trans q) (by decide)), (fun _ => ⟨y123, V121, hE127, Or.inl ⟨by omega, by omega, (show V154 1 1 = 0 from e163)⟩⟩), hT⟩ dX11_scene_87
          · skip
            replace hb166 := hb166.trans (if_neg (Int.not_le.mpr c171))
            refine pm_aload_n hC 0 (by decide) dX11_scene_64 rfl ?_
            have e175 : V154 0 4 = 14 := hV155.one 0 4 (by decide) (by decide) rfl
            refine pm_getf (v := 14) hC 0 fl_X11_28 rfl rfl (by decide) rfl e175 dX11_scene_65 ?_
            refine pm_iload_n hC 2 dX11_scene_68 rfl ?_
            rcases (show x152 = (0 : Int) ∨ x152 = (1 : Int) ∨ x152 = (2 : Int) by omega) with hk | hk | hk
            · skip
              have e176 : V154 14 (x152 : Int).toNat = 15 := by rw [hk]; exact hV155.one 14 0 (by decide) (by decide) rfl
              replace hb166 := hb166.trans (if_pos hk)
              refine pm_aaload (len := 3) (v := 15) hC 14 rfl rfl (by decide) ⟨by omega, by omega⟩ (by decide) e176 dX11_scene_69 ?_
              refine pm_iconst (v := 0) hC dX11_scene_70 ?_
              refine pm_putf hC 15 fl_X11_132 rfl rfl rfl (by decide) rfl (by show _ = (0 : Int) ∨ _ = (1 : Int); omega) dX11_scene_71 ?_
              obtain ⟨x177, ei178⟩ : ∃ y : Int, x152 + 1 = y := ⟨_, rfl⟩
              replace hb166 := hb166.trans (pf_let_eq ei178)
              refine pm_iinc (y := x177) (lv' := [(2, (0, x177)), (0, (3, 0)), (1, (3, 45))]) hC 2 dX11_scene_74 (by decide) rfl ei178 rfl ?_
              refine pm_goto (tgt := 59) hC dX11_scene_77 (by decide) ?_
              refine pm_lvsub [1, 2, 0] (lv' := [(0, (3, 0)), (1, (3, 45)), (2, (0, x177))]) rfl ?_
              exact ih170 _ (by omega) x177 (pm_up V154 15 0 0) ⟨by omega, by omega⟩ (hV155.put 15 0 (x := 0) (lo := 0) (hi := 1) rfl ⟨by decide, by decide⟩) (hF156.up 15 0 0 rfl) e157 e158 e159 e160 e161 e162 e163 (hT.trans (pf_val_inl hb166)) rfl
            · skip
              have e179 : V154 14 (x152 : Int).toNat = 25 := by rw [hk]; exact hV155.one 14 1 (by decide) (by decide) rfl
              replace hb166 := hb166.trans (if_neg (by omega))
              replace hb166 := hb166.trans (if_pos hk)
              refine pm_aaload (len := 3) (v := 25) hC 14 rfl rfl (by decide) ⟨by omega, by omega⟩ (by decide) e179 dX11_scene_69 ?_
              refine pm_iconst (v := 0) hC dX11_scene_70 ?_
              refine pm_putf hC 25 fl_X11_132 rfl rfl rfl (by decide) rfl (by show _ = (0 : Int) ∨ _ = (1 : Int); omega) dX11_scene_71 ?_
              obtain ⟨x180, ei181⟩ : ∃ y : Int, x152 + 1 = y := ⟨_, rfl⟩
              replace hb166 := hb166.trans (pf_let_eq ei181)
              refine pm_iinc (y := x180) (lv' := [(2, (0, x180)), (0, (3, 0)), (1, (3, 45))]) hC 2 dX11_scene_74 (by decide) rfl ei181 rfl ?_
              refine pm_goto (tgt := 59) hC dX11_scene_77 (by decide) ?_
              refine pm_lvsub [1, 2, 0] (lv' := [(0, (3, 0)), (1, (3, 45)), (2, (0, x180))]) rfl ?_
              exact ih170 _ (by omega) x180 (pm_up V154 25 0 0) ⟨by omega, by omega⟩ (hV155.put 25 0 (x := 0) (lo := 0) (hi := 1) rfl ⟨by decide, by decide⟩) (hF156.up 25 0 0 rfl) e157 e158 e159 e160 e161 e162 e163 (hT.trans (pf_val_inl hb166)) rfl
            · skip
              have e182 : V154 14 (x152 : Int).toNat = 35 := by rw [hk]; exact hV155.one 14 2 (by decide) (by decide) rfl
              replace hb166 := hb166.trans (if_neg (by omega))
              replace hb166 := hb166.trans (if_neg (by omega))
              refine pm_aaload (len := 3) (v := 35) hC 14 rfl rfl (by decide) ⟨by omega, by omega⟩ (by decide) e182 dX11_scene_69 ?_
              refine pm_iconst (v := 0) hC dX11_scene_70 ?_
              refine pm_putf hC 35 fl_X11_132 rfl rfl rfl (by decide) rfl (by show _ = (0 : Int) ∨ _ = (1 : Int); omega) dX11_scene_71 ?_
              obtain ⟨x183, ei184⟩ : ∃ y : Int, x152 + 1 = y := ⟨_, rfl⟩
              replace hb166 := hb166.trans (pf_let_eq ei184)
              refine pm_iinc (y := x183) (lv' := [(2, (0, x183)), (0, (3, 0)), (1, (3, 45))]) hC 2 dX11_scene_74 (by decide) rfl ei184 rfl ?_
              refine pm_goto (tgt := 59) hC dX11_scene_77 (by decide) ?_
              refine pm_lvsub [1, 2, 0] (lv' := [(0, (3, 0)), (1, (3, 45)), (2, (0, x183))]) rfl ?_
              exact ih170 _ (by omega) x183 (pm_up V154 35 0 0) ⟨by omega, by omega⟩ (hV155.put 35 0 (x := 0) (lo := 0) (hi := 1) rfl ⟨by decide, by decide⟩) (hF156.up 35 0 0 rfl) e157 e158 e159 e160 e161 e162 e163 (hT.trans (pf_val_inl hb166)) rfl
        refine pm_lvsub [2, 1, 0] (lv' := [(0, (3, 0)), (1, (3, 45)), (2, (0, 0))]) rfl ?_
        exact L167 _ 0 V139 ⟨by decide, by decide⟩ hV141 hF144 e145 e146 e147 e148 e149 e150 e151 hT rfl
      · skip
        replace hT := hT.trans (if_neg (by rw [e132]; decide))
        refine pm_getf (v := 51) hC 0 fl_X11_35 rfl rfl (by decide) rfl e132 dX11_scene_18 ?_
        refine pm_astore_n (lv' := [(1, (3, 51)), (0, (3, 0))]) hC (by decide) dX11_scene_21 (by decide) rfl ?_
        refine pm_aload_n hC 1 (by decide) dX11_scene_22 rfl ?_
        refine pm_aload_n hC 1 (by decide) dX11_scene_23 rfl ?_
        refine pm_getf (v := 51) hC 0 fl_X11_39 rfl rfl (by decide) rfl e130 dX11_scene_24 ?_
        refine pm_putf hC 0 fl_X11_35 rfl rfl rfl (by decide) rfl trivial dX11_scene_27 ?_
        refine pm_aload_n hC 1 (by decide) dX11_scene_30 rfl ?_
        refine pm_aload_n hC 0 (by decide) dX11_scene_31 rfl ?_
        refine pm_putf hC 0 fl_X11_39 rfl rfl rfl (by decide) rfl trivial dX11_scene_32 ?_
        refine pm_aload_n hC 1 (by decide) dX11_scene_35 rfl ?_
        have e185 : V121 0 0 = 1 := hV125.one 0 0 (by decide) (by decide) rfl
        refine pm_getf (v := 1) hC 0 fl_X11_10 rfl rfl (by decide) rfl e185 dX11_scene_36 ?_
        refine pm_iconst (v := 0) hC dX11_scene_39 ?_
        refine pm_putf hC 1 fl_X11_111 rfl rfl rfl (by decide) rfl trivial dX11_scene_40 ?_
        refine pm_aload_n hC 1 (by decide) dX11_scene_43 rfl ?_
        have e186 : V121 0 3 = 4 := hV125.one 0 3 (by decide) (by decide) rfl
        refine pm_getf (v := 4) hC 0 fl_X11_24 rfl rfl (by decide) rfl e186 dX11_scene_44 ?_
        refine pm_aload_n hC 1 (by decide) dX11_scene_47 rfl ?_
        refine pm_getf (v := 51) hC 0 fl_X11_35 rfl rfl (by decide) rfl rfl dX11_scene_48 ?_
        obtain ⟨y187, e188⟩ : ∃ y, V121 51 8 = y := ⟨_, rfl⟩
        have b189 := hV125.get 51 8 (lo := 0) (hi := 16) (by decide) (by decide) rfl
        rw [e188] at b189
        replace hT := hT.trans (pf_let_eq e188)
        refine pm_getf (v := y187) hC 51 fl_X11_126 rfl rfl (by decide) rfl e188 dX11_scene_51 ?_
        refine pm_callV (ci := 7) (as := [(0, y187)]) (st := []) hC 4 (fC_X7_begin y187 ⟨by omega, by omega⟩) lm_X11_129 li_X7_begin (by decide) (by decide) rfl rfl rfl (by decide) rfl rfl (Nat.le_of_ble_eq_true rfl) ⟨Nat.le_refl _, Or.inl rfl⟩ dX11_scene_54 ⟨rfl, (((hV125.put2 0 8 (x := 51) (lo := 45) (hi := 51) rfl ⟨by omega, by decide⟩).put2 0 9 (x := 51) (lo := 45) (hi := 51) rfl ⟨by omega, by decide⟩).put 1 1 (x := 0) (lo := 0) (hi := 500) rfl ⟨by decide, by decide⟩)⟩ (fun r190 V191 hp192 => ?_)
        obtain ⟨rfl, hV193, hF194, hE195⟩ := hp192
        replace hT := hT.trans (pf_call_eq hE195)
        change pm_J X 57 [(1, (3, 51)), (0, (3, 0))] [] 118 V191
        have hF196 := pm_fr.tr (((hF128.up 0 8 51 rfl).up 0 9 51 rfl).up 1 1 0 rfl) hF194 (by decide)
        have e197 : V191 0 1 = 69 := by rw [hF194 0 (by decide)]; exact e129
        have e198 : V191 0 0 = 1 := by rw [hF194 0 (by decide)]; exact e185
        have e199 : V191 0 3 = 4 := by rw [hF194 0 (by decide)]; exact e186
        have e200 : V191 51 8 = y187 := by rw [hF194 51 (by decide)]; exact e188
        have e201 : V191 0 8 = 51 := by rw [hF194 0 (by decide)]; rfl
        have e202 : V191 0 9 = 51 := by rw [hF194 0 (by decide)]; rfl
        have e203 : V191 1 1 = 0 := by rw [hF194 1 (by decide)]; rfl
        refine pm_iconst (v := 0) hC dX11_scene_57 ?_
        refine pm_istore_n (lv' := [(2, (0, 0)), (1, (3, 51)), (0, (3, 0))]) hC dX11_scene_58 (by decide) rfl ?_
        obtain ⟨B216, hB217, hT⟩ := pf_loop hT
        have L219 : ∀ (N221 : Nat) (x204 : Int) (V206 : pm_M), (0 ≤ x204 ∧ x204 ≤ 3) → pm_ok 0 90 V206 → pm_fr [0, 1, 3, 4, 5, 6, 7, 8, 15, 25, 35, 45, 46, 47, 48, 49, 50, 51, 52, 53, 54, 55, 56, 69, 70, 71] V0 V206 → V206 0 1 = 69 → V206 0 0 = 1 → V206 0 3 = 4 → V206 51 8 = y187 → V206 0 8 = 51 → V206 0 9 = 51 → V206 1 1 = 0 → F_X11_scene  V0 = pf_val ((0 : Int), V0) B216 (x204, V206) → (Int.toNat (3 - x204)) = N221 → pm_J X 59 [(0, (3, 0)), (1, (3, 51)), (2, (0, x204))] [] 118 V206 := by
          intro N221
          induction N221 using Nat.strongRecOn with
          | _ N221 ih222 =>
          intro x204 V206 b205 hV207 hF208 e209 e210 e211 e212 e213 e214 e215 hT hm220
          have hb218 := congrFun hB217 (x204, V206)
          refine pm_iload_n hC 2 dX11_scene_59 rfl ?_
          refine pm_iconst (v := 3) hC dX11_scene_60 ?_
          refine pm_icmp_ge (tgt := 80) hC ⟨by omega, by omega⟩ ⟨by decide, by decide⟩ dX11_scene_61 (by decide) (fun c223 => ?_) (fun c223 => ?_)
          · skip
            replace hb218 := hb218.trans (if_pos c223)
            refine pm_aload_n hC 0 (by decide) dX11_scene_80 rfl ?_
            refine pm_getf (v := 51) hC 0 fl_X11_35 rfl rfl (by decide) rfl e213 dX11_scene_81 ?_
            obtain ⟨y224, e225⟩ : ∃ y, V206 51 0 = y := ⟨_, rfl⟩
            have b226 := hV207.get 51 0 (lo := 0) (hi := 9) (by decide) (by decide) rfl
            rw [e225] at b226
            replace hb218 := hb218.trans (pf_let_eq e225)
            refine pm_getf (v := y224) hC 51 fl_X11_136 rfl rfl (by decide) rfl e225 dX11_scene_84 ?_
            have hT := hT.trans (pf_val_inr hb218)
            exact pm_iret hC hR pm_nar0 ⟨y224, rfl, ⟨by omega, by omega⟩, hV207, hF208, (fun q => absurd (((congrFun (hF126 0 (by decide)) 9).symm.trans e130).symm.trans q) (by decide)), (fun _ => ⟨y123, V121, hE127, Or.inl ⟨by omega, by omega, (show V206 1 1 = 0 from e215)⟩⟩), hT⟩ dX11_scene_87
          · skip
            replace hb218 := hb218.trans (if_neg (Int.not_le.mpr c223))
            refine pm_aload_n hC 0 (by decide) dX11_scene_64 rfl ?_
            have e227 : V206 0 4 = 14 := hV207.one 0 4 (by decide) (by decide) rfl
            refine pm_getf (v := 14) hC 0 fl_X11_28 rfl rfl (by decide) rfl e227 dX11_scene_65 ?_
            refine pm_iload_n hC 2 dX11_scene_68 rfl ?_
            rcases (show x204 = (0 : Int) ∨ x204 = (1 : Int) ∨ x204 = (2 : Int) by omega) with hk | hk | hk
            · skip
              have e228 : V206 14 (x204 : Int).toNat = 15 := by rw [hk]; exact hV207.one 14 0 (by decide) (by decide) rfl
              replace hb218 := hb218.trans (if_pos hk)
              refine pm_aaload (len := 3) (v := 15) hC 14 rfl rfl (by decide) ⟨by omega, by omega⟩ (by decide) e228 dX11_scene_69 ?_
              refine pm_iconst (v := 0) hC dX11_scene_70 ?_
              refine pm_putf hC 15 fl_X11_132 rfl rfl rfl (by decide) rfl (by show _ = (0 : Int) ∨ _ = (1 : Int); omega) dX11_scene_71 ?_
              obtain ⟨x229, ei230⟩ : ∃ y : Int, x204 + 1 = y := ⟨_, rfl⟩
              replace hb218 := hb218.trans (pf_let_eq ei230)
              refine pm_iinc (y := x229) (lv' := [(2, (0, x229)), (0, (3, 0)), (1, (3, 51))]) hC 2 dX11_scene_74 (by decide) rfl ei230 rfl ?_
              refine pm_goto (tgt := 59) hC dX11_scene_77 (by decide) ?_
              refine pm_lvsub [1, 2, 0] (lv' := [(0, (3, 0)), (1, (3, 51)), (2, (0, x229))]) rfl ?_
              exact ih222 _ (by omega) x229 (pm_up V206 15 0 0) ⟨by omega, by omega⟩ (hV207.put 15 0 (x := 0) (lo := 0) (hi := 1) rfl ⟨by decide, by decide⟩) (hF208.up 15 0 0 rfl) e209 e210 e211 e212 e213 e214 e215 (hT.trans (pf_val_inl hb218)) rfl
            · skip
              have e231 : V206 14 (x204 : Int).toNat = 25 := by rw [hk]; exact hV207.one 14 1 (by decide) (by decide) rfl
              replace hb218 := hb218.trans (if_neg (by omega))
              replace hb218 := hb218.trans (if_pos hk)
              refine pm_aaload (len := 3) (v := 25) hC 14 rfl rfl (by decide) ⟨by omega, by omega⟩ (by decide) e231 dX11_scene_69 ?_
              refine pm_iconst (v := 0) hC dX11_scene_70 ?_
              refine pm_putf hC 25 fl_X11_132 rfl rfl rfl (by decide) rfl (by show _ = (0 : Int) ∨ _ = (1 : Int); omega) dX11_scene_71 ?_
              obtain ⟨x232, ei233⟩ : ∃ y : Int, x204 + 1 = y := ⟨_, rfl⟩
              replace hb218 := hb218.trans (pf_let_eq ei233)
              refine pm_iinc (y := x232) (lv' := [(2, (0, x232)), (0, (3, 0)), (1, (3, 51))]) hC 2 dX11_scene_74 (by decide) rfl ei233 rfl ?_
              refine pm_goto (tgt := 59) hC dX11_scene_77 (by decide) ?_
              refine pm_lvsub [1, 2, 0] (lv' := [(0, (3, 0)), (1, (3, 51)), (2, (0, x232))]) rfl ?_
              exact ih222 _ (by omega) x232 (pm_up V206 25 0 0) ⟨by omega, by omega⟩ (hV207.put 25 0 (x := 0) (lo := 0) (hi := 1) rfl ⟨by decide, by decide⟩) (hF208.up 25 0 0 rfl) e209 e210 e211 e212 e213 e214 e215 (hT.trans (pf_val_inl hb218)) rfl
            · skip
              have e234 : V206 14 (x204 : Int).toNat = 35 := by rw [hk]; exact hV207.one 14 2 (by decide) (by decide) rfl
              replace hb218 := hb218.trans (if_neg (by omega))
              replace hb218 := hb218.trans (if_neg (by omega))
              refine pm_aaload (len := 3) (v := 35) hC 14 rfl rfl (by decide) ⟨by omega, by omega⟩ (by decide) e234 dX11_scene_69 ?_
              refine pm_iconst (v := 0) hC dX11_scene_70 ?_
              refine pm_putf hC 35 fl_X11_132 rfl rfl rfl (by decide) rfl (by show _ = (0 : Int) ∨ _ = (1 : Int); omega) dX11_scene_71 ?_
              obtain ⟨x235, ei236⟩ : ∃ y : Int, x204 + 1 = y := ⟨_, rfl⟩
              replace hb218 := hb218.trans (pf_let_eq ei236)
              refine pm_iinc (y := x235) (lv' := [(2, (0, x235)), (0, (3, 0)), (1, (3, 51))]) hC 2 dX11_scene_74 (by decide) rfl ei236 rfl ?_
              refine pm_goto (tgt := 59) hC dX11_scene_77 (by decide) ?_
              refine pm_lvsub [1, 2, 0] (lv' := [(0, (3, 0)), (1, (3, 51)), (2, (0, x235))]) rfl ?_
              exact ih222 _ (by omega) x235 (pm_up V206 35 0 0) ⟨by omega, by omega⟩ (hV207.put 35 0 (x := 0) (lo := 0) (hi := 1) rfl ⟨by decide, by decide⟩) (hF208.up 35 0 0 rfl) e209 e210 e211 e212 e213 e214 e215 (hT.trans (pf_val_inl hb218)) rfl
        refine pm_lvsub [2, 1, 0] (lv' := [(0, (3, 0)), (1, (3, 51)), (2, (0, 0))]) rfl ?_
        exact L219 _ 0 V191 ⟨by decide, by decide⟩ hV193 hF196 e197 e198 e199 e200 e201 e202 e203 hT rfl
    · skip
      replace hT := hT.trans (if_neg c131)
      refine pm_iconst (v := (-1)) hC dX11_scene_15 ?_
      exact pm_iret hC hR pm_nar0 ⟨(-1), rfl, ⟨by omega, by omega⟩, hV125, hF128, (fun q => absurd (((congrFun (hF126 0 (by decide)) 9).symm.trans e130).symm.trans q) (by decide)), (fun _ => ⟨y123, V121, hE127, Or.inr ⟨by omega, rfl, rfl⟩⟩), hT⟩ dX11_scene_16
set_option maxHeartbeats 4000000 in
set_option maxRecDepth 100000 in
theorem fC_X11_rules  : pm_K 32 yX11_rules cX11_rules 2 (some .int) (fun av V => av = [(3, 0)] ∧ pm_ok 0 90 V) (fun _ V r V' => ∃ y, r = some (0, y) ∧ ((-1) ≤ y ∧ y ≤ 10) ∧ pm_ok 0 90 V' ∧ pm_fr [0, 1, 3, 57, 58, 59, 60, 61, 63, 64, 65, 66, 67, 72] V V' ∧ (V 0 11 = 57 → ∃ z W, F_X3_read 57 V = (z, W) ∧ ((z = -1 ∧ 0 ≤ y ∧ V' 1 1 = 0) ∨ (z ≠ -1 ∧ y = -1 ∧ V' = W))) ∧ (V 0 11 = 63 → ∃ z W, F_X3_read 63 V = (z, W) ∧ ((z = -1 ∧ 0 ≤ y ∧ V' 1 1 = 0) ∨ (z ≠ -1 ∧ y = -1 ∧ V' = W))) ∧ F_X11_rules  V = (y, V')) := by
  refine pm_MT.of (by decide) ⟨Nat.le_refl _, by decide⟩ (fun av V h => by rw [h.1]; exact (by decide : pm_words [(3, 0)] ≤ 2)) ?_
  rintro X av V0 hC - hR ⟨rfl, hV0⟩
  change pm_J X 0 [(0, (3, 0))] [] 118 V0
  have hT := F_X11_rules_eq  V0
  refine pm_aload_n hC 0 (by decide) dX11_rules_0 rfl ?_
  have e1 : V0 0 2 = 72 := hV0.one 0 2 (by decide) (by decide) rfl
  refine pm_getf (v := 72) hC 0 fl_X11_66 rfl rfl (by decide) rfl e1 dX11_rules_1 ?_
  refine pm_aload_n hC 0 (by decide) dX11_rules_4 rfl ?_
  rcases hV0.get2 0 11 (lo := 57) (hi := 63) (by decide) (by decide) rfl with e2 | e2
  · skip
    replace hT := hT.trans (if_pos e2)
    refine pm_getf (v := 57) hC 0 fl_X11_49 rfl rfl (by decide) rfl e2 dX11_rules_5 ?_
    refine pm_callV (ci := 3) (as := [(3, 57)]) (st := []) hC 72 fC_X3_read_57 lm_X11_122 li_X3_read (by decide) (by decide) rfl rfl rfl (by decide) rfl rfl (Nat.le_of_ble_eq_true rfl) ⟨Nat.le_refl _, Or.inl rfl⟩ dX11_rules_8 ⟨rfl, hV0⟩ (fun r3 V4 hp5 => ?_)
    obtain ⟨y6, rfl, b7, hV8, hF9, hE10⟩ := hp5
    replace hT := hT.trans (pf_call_eq hE10)
    change pm_J X 11 [(0, (3, 0))] [(0, y6)] 118 V4
    have hF11 := pm_fr.tr (pm_fr.rf (ws := [0, 1, 3, 57, 58, 59, 60, 61, 63, 64, 65, 66, 67, 72]) (V := V0)) hF9 (by decide)
    have e12 : V4 0 2 = 72 := by rw [hF9 0 (by decide)]; exact e1
    have e13 : V4 0 11 = 57 := by rw [hF9 0 (by decide)]; exact e2
    refine pm_iconst (v := (-1)) hC dX11_rules_11 ?_
    refine pm_icmp_eq (tgt := 17) hC ⟨by omega, by omega⟩ ⟨by decide, by decide⟩ dX11_rules_12 (by decide) (fun c14 => ?_) (fun c14 => ?_)
    · skip
      replace hT := hT.trans (if_pos c14)
      refine pm_aload_n hC 0 (by decide) dX11_rules_17 rfl ?_
      rcases hV8.get2 0 10 (lo := 57) (hi := 63) (by decide) (by decide) rfl with e15 | e15
      · skip
        replace hT := hT.trans (if_pos e15)
        refine pm_getf (v := 57) hC 0 fl_X11_45 rfl rfl (by decide) rfl e15 dX11_rules_18 ?_
        refine pm_astore_n (lv' := [(1, (3, 57)), (0, (3, 0))]) hC (by decide) dX11_rules_21 (by decide) rfl ?_
        refine pm_aload_n hC 1 (by decide) dX11_rules_22 rfl ?_
        refine pm_aload_n hC 1 (by decide) dX11_rules_23 rfl ?_
        refine pm_getf (v := 57) hC 0 fl_X11_49 rfl rfl (by decide) rfl e13 dX11_rules_24 ?_
        refine pm_putf hC 0 fl_X11_45 rfl rfl rfl (by decide) rfl trivial dX11_rules_27 ?_
        refine pm_aload_n hC 1 (by decide) dX11_rules_30 rfl ?_
        refine pm_aload_n hC 0 (by decide) dX11_rules_31 rfl ?_
        refine pm_putf hC 0 fl_X11_49 rfl rfl rfl (by decide) rfl trivial dX11_rules_32 ?_
        refine pm_aload_n hC 1 (by decide) dX11_rules_35 rfl ?_
        have e16 : V4 0 0 = 1 := hV8.one 0 0 (by decide) (by decide) rfl
        refine pm_getf (v := 1) hC 0 fl_X11_10 rfl rfl (by decide) rfl e16 dX11_rules_36 ?_
        refine pm_iconst (v := 0) hC dX11_rules_39 ?_
        refine pm_putf hC 1 fl_X11_111 rfl rfl rfl (by decide) rfl trivial dX11_rules_40 ?_
        refine pm_aload_n hC 1 (by decide) dX11_rules_43 rfl ?_
        refine pm_getf (v := 57) hC 0 fl_X11_45 rfl rfl (by decide) rfl rfl dX11_rules_44 ?_
        obtain ⟨y17, e18⟩ : ∃ y, V4 57 0 = y := ⟨_, rfl⟩
        have b19 := hV8.get 57 0 (lo := 0) (hi := 10) (by decide) (by decide) rfl
        rw [e18] at b19
        replace hT := hT.trans (pf_let_eq e18)
        refine pm_getf (v := y17) hC 57 fl_X11_139 rfl rfl (by decide) rfl e18 dX11_rules_47 ?_
        exact pm_iret hC hR pm_nar0 ⟨y17, rfl, ⟨by omega, by omega⟩, (((hV8.put2 0 10 (x := 57) (lo := 57) (hi := 63) rfl ⟨by omega, by decide⟩).put2 0 11 (x := 57) (lo := 57) (hi := 63) rfl ⟨by omega, by decide⟩).put 1 1 (x := 0) (lo := 0) (hi := 500) rfl ⟨by decide, by decide⟩), (((hF11.up 0 10 57 rfl).up 0 11 57 rfl).up 1 1 0 rfl), (fun _ => ⟨y6, V4, hE10, Or.inl ⟨by omega, by omega, (show (pm_up (pm_up (pm_up V4 0 10 57) 0 11 57) 1 1 0) 1 1 = 0 from rfl)⟩⟩), (fun q => absurd (((congrFun (hF9 0 (by decide)) 11).symm.trans e13).symm.trans q) (by decide)), hT⟩ dX11_rules_50
      · skip
        replace hT := hT.trans (if_neg (by rw [e15]; decide))
        refine pm_getf (v := 63) hC 0 fl_X11_45 rfl rfl (by decide) rfl e15 dX11_rules_18 ?_
        refine pm_astore_n (lv' := [(1, (3, 63)), (0, (3, 0))]) hC (by decide) dX11_rules_21 (by decide) rfl ?_
        refine pm_aload_n hC 1 (by decide) dX11_rules_22 rfl ?_
        refine pm_aload_n hC 1 (by decide) dX11_rules_23 rfl ?_
        refine pm_getf (v := 57) hC 0 fl_X11_49 rfl rfl (by decide) rfl e13 dX11_rules_24 ?_
        refine pm_putf hC 0 fl_X11_45 rfl rfl rfl (by decide) rfl trivial dX11_rules_27 ?_
        refine pm_aload_n hC 1 (by decide) dX11_rules_30 rfl ?_
        refine pm_aload_n hC 0 (by decide) dX11_rules_31 rfl ?_
        refine pm_putf hC 0 fl_X11_49 rfl rfl rfl (by decide) rfl trivial dX11_rules_32 ?_
        refine pm_aload_n hC 1 (by decide) dX11_rules_35 rfl ?_
        have e20 : V4 0 0 = 1 := hV8.one 0 0 (by decide) (by decide) rfl
        refine pm_getf (v := 1) hC 0 fl_X11_10 rfl rfl (by decide) rfl e20 dX11_rules_36 ?_
        refine pm_iconst (v := 0) hC dX11_rules_39 ?_
        refine pm_putf hC 1 fl_X11_111 rfl rfl rfl (by decide) rfl trivial dX11_rules_40 ?_
        refine pm_aload_n hC 1 (by decide) dX11_rules_43 rfl ?_
        refine pm_getf (v := 57) hC 0 fl_X11_45 rfl rfl (by decide) rfl rfl dX11_rules_44 ?_
        obtain ⟨y21, e22⟩ : ∃ y, V4 57 0 = y := ⟨_, rfl⟩
        have b23 := hV8.get 57 0 (lo := 0) (hi := 10) (by decide) (by decide) rfl
        rw [e22] at b23
        replace hT := hT.trans (pf_let_eq e22)
        refine pm_getf (v := y21) hC 57 fl_X11_139 rfl rfl (by decide) rfl e22 dX11_rules_47 ?_
        exact pm_iret hC hR pm_nar0 ⟨y21, rfl, ⟨by omega, by omega⟩, (((hV8.put2 0 10 (x := 57) (lo := 57) (hi := 63) rfl ⟨by omega, by decide⟩).put2 0 11 (x := 63) (lo := 57) (hi := 63) rfl ⟨by omega, by decide⟩).put 1 1 (x := 0) (lo := 0) (hi := 500) rfl ⟨by decide, by decide⟩), (((hF11.up 0 10 57 rfl).up 0 11 63 rfl).up 1 1 0 rfl), (fun _ => ⟨y6, V4, hE10, Or.inl ⟨by omega, by omega, (show (pm_up (pm_up (pm_up V4 0 10 57) 0 11 63) 1 1 0) 1 1 = 0 from rfl)⟩⟩), (fun q => absurd (((congrFun (hF9 0 (by decide)) 11).symm.trans e13).symm.trans q) (by decide)), hT⟩ dX11_rules_50
    · skip
      replace hT := hT.trans (if_neg c14)
      refine pm_iconst (v := (-1)) hC dX11_rules_15 ?_
      exact pm_iret hC hR pm_nar0 ⟨(-1), rfl, ⟨by omega, by omega⟩, hV8, hF11, (fun _ => ⟨y6, V4, hE10, Or.inr ⟨by omega, rfl, rfl⟩⟩), (fun q => absurd (((congrFun (hF9 0 (by decide)) 11).symm.trans e13).symm.trans q) (by decide)), hT⟩ dX11_rules_16
  · skip
    replace hT := hT.trans (if_neg (by rw [e2]; decide))
    refine pm_getf (v := 63) hC 0 fl_X11_49 rfl rfl (by decide) rfl e2 dX11_rules_5 ?_
    refine pm_callV (ci := 3) (as := [(3, 63)]) (st := []) hC 72 fC_X3_read_63 lm_X11_122 li_X3_read (by decide) (by decide) rfl rfl rfl (by decide) rfl rfl (Nat.le_of_ble_eq_true rfl) ⟨Nat.le_refl _, Or.inl rfl⟩ dX11_rules_8 ⟨rfl, hV0⟩ (fun r24 V25 hp26 => ?_)
    obtain ⟨y27, rfl, b28, hV29, hF30, hE31⟩ := hp26
    replace hT := hT.trans (pf_call_eq hE31)
    change pm_J X 11 [(0, (3, 0))] [(0, y27)] 118 V25
    have hF32 := pm_fr.tr (pm_fr.rf (ws := [0, 1, 3, 57, 58, 59, 60, 61, 63, 64, 65, 66, 67, 72]) (V := V0)) hF30 (by decide)
    have e33 : V25 0 2 = 72 := by rw [hF30 0 (by decide)]; exact e1
    have e34 : V25 0 11 = 63 := by rw [hF30 0 (by decide)]; exact e2
    refine pm_iconst (v := (-1)) hC dX11_rules_11 ?_
    refine pm_icmp_eq (tgt := 17) hC ⟨by omega, by omega⟩ ⟨by decide, by decide⟩ dX11_rules_12 (by decide) (fun c35 => ?_) (fun c35 => ?_)
    · skip
      replace hT := hT.trans (if_pos c35)
      refine pm_aload_n hC 0 (by decide) dX11_rules_17 rfl ?_
      rcases hV29.get2 0 10 (lo := 57) (hi := 63) (by decide) (by decide) rfl with e36 | e36
      · skip
        replace hT := hT.trans (if_pos e36)
        refine pm_getf (v := 57) hC 0 fl_X11_45 rfl rfl (by decide) rfl e36 dX11_rules_18 ?_
        refine pm_astore_n (lv' := [(1, (3, 57)), (0, (3, 0))]) hC (by decide) dX11_rules_21 (by decide) rfl ?_
        refine pm_aload_n hC 1 (by decide) dX11_rules_22 rfl ?_
        refine pm_aload_n hC 1 (by decide) dX11_rules_23 rfl ?_
        refine pm_getf (v := 63) hC 0 fl_X11_49 rfl rfl (by decide) rfl e34 dX11_rules_24 ?_
        refine pm_putf hC 0 fl_X11_45 rfl rfl rfl (by decide) rfl trivial dX11_rules_27 ?_
        refine pm_aload_n hC 1 (by decide) dX11_rules_30 rfl ?_
        refine pm_aload_n hC 0 (by decide) dX11_rules_31 rfl ?_
        refine pm_putf hC 0 fl_X11_49 rfl rfl rfl (by decide) rfl trivial dX11_rules_32 ?_
        refine pm_aload_n hC 1 (by decide) dX11_rules_35 rfl ?_
        have e37 : V25 0 0 = 1 := hV29.one 0 0 (by decide) (by decide) rfl
        refine pm_getf (v := 1) hC 0 fl_X11_10 rfl rfl (by decide) rfl e37 dX11_rules_36 ?_
        refine pm_iconst (v := 0) hC dX11_rules_39 ?_
        refine pm_putf hC 1 fl_X11_111 rfl rfl rfl (by decide) rfl trivial dX11_rules_40 ?_
        refine pm_aload_n hC 1 (by decide) dX11_rules_43 rfl ?_
        refine pm_getf (v := 63) hC 0 fl_X11_45 rfl rfl (by decide) rfl rfl dX11_rules_44 ?_
        obtain ⟨y38, e39⟩ : ∃ y, V25 63 0 = y := ⟨_, rfl⟩
        have b40 := hV29.get 63 0 (lo := 0) (hi := 10) (by decide) (by decide) rfl
        rw [e39] at b40
        replace hT := hT.trans (pf_let_eq e39)
        refine pm_getf (v := y38) hC 63 fl_X11_139 rfl rfl (by decide) rfl e39 dX11_rules_47 ?_
        exact pm_iret hC hR pm_nar0 ⟨y38, rfl, ⟨by omega, by omega⟩, (((hV29.put2 0 10 (x := 63) (lo := 57) (hi := 63) rfl ⟨by omega, by decide⟩).put2 0 11 (x := 57) (lo := 57) (hi := 63) rfl ⟨by omega, by decide⟩).put 1 1 (x := 0) (lo := 0) (hi := 500) rfl ⟨by decide, by decide⟩), (((hF32.up 0 10 63 rfl).up 0 11 57 rfl).up 1 1 0 rfl), (fun q => absurd (((congrFun (hF30 0 (by decide)) 11).symm.trans e34).symm.trans q) (by decide)), (fun _ => ⟨y27, V25, hE31, Or.inl ⟨by omega, by omega, (show (pm_up (pm_up (pm_up V25 0 10 63) 0 11 57) 1 1 0) 1 1 = 0 from rfl)⟩⟩), hT⟩ dX11_rules_50
      · skip
        replace hT := hT.trans (if_neg (by rw [e36]; decide))
        refine pm_getf (v := 63) hC 0 fl_X11_45 rfl rfl (by decide) rfl e36 dX11_rules_18 ?_
        refine pm_astore_n (lv' := [(1, (3, 63)), (0, (3, 0))]) hC (by decide) dX11_rules_21 (by decide) rfl ?_
        refine pm_aload_n hC 1 (by decide) dX11_rules_22 rfl ?_
        refine pm_aload_n hC 1 (by decide) dX11_rules_23 rfl ?_
        refine pm_getf (v := 63) hC 0 fl_X11_49 rfl rfl (by decide) rfl e34 dX11_rules_24 ?_
        refine pm_putf hC 0 fl_X11_45 rfl rfl rfl (by decide) rfl trivial dX11_rules_27 ?_
        refine pm_aload_n hC 1 (by decide) dX11_rules_30 rfl ?_
        refine pm_aload_n hC 0 (by decide) dX11_rules_31 rfl ?_
        refine pm_putf hC 0 fl_X11_49 rfl rfl rfl (by decide) rfl trivial dX11_rules_32 ?_
        refine pm_aload_n hC 1 (by decide) dX11_rules_35 rfl ?_
        have e41 : V25 0 0 = 1 := hV29.one 0 0 (by decide) (by decide) rfl
        refine pm_getf (v := 1) hC 0 fl_X11_10 rfl rfl (by decide) rfl e41 dX11_rules_36 ?_
        refine pm_iconst (v := 0) hC dX11_rules_39 ?_
        refine pm_putf hC 1 fl_X11_111 rfl rfl rfl (by decide) rfl trivial dX11_rules_40 ?_
        refine pm_aload_n hC 1 (by decide) dX11_rules_43 rfl ?_
        refine pm_getf (v := 63) hC 0 fl_X11_45 rfl rfl (by decide) rfl rfl dX11_rules_44 ?_
        obtain ⟨y42, e43⟩ : ∃ y, V25 63 0 = y := ⟨_, rfl⟩
        have b44 := hV29.get 63 0 (lo := 0) (hi := 10) (by decide) (by decide) rfl
        rw [e43] at b44
        replace hT := hT.trans (pf_let_eq e43)
        refine pm_getf (v := y42) hC 63 fl_X11_139 rfl rfl (by decide) rfl e43 dX11_rules_47 ?_
        exact pm_iret hC hR pm_nar0 ⟨y42, rfl, ⟨by omega, by omega⟩, (((hV29.put2 0 10 (x := 63) (lo := 57) (hi := 63) rfl ⟨by omega, by decide⟩).put2 0 11 (x := 63) (lo := 57) (hi := 63) rfl ⟨by omega, by decide⟩).put 1 1 (x := 0) (lo := 0) (hi := 500) rfl ⟨by decide, by decide⟩), (((hF32.up 0 10 63 rfl).up 0 11 63 rfl).up 1 1 0 rfl), (fun q => absurd (((congrFun (hF30 0 (by decide)) 11).symm.trans e34).symm.trans q) (by decide)), (fun _ => ⟨y27, V25, hE31, Or.inl ⟨by omega, by omega, (show (pm_up (pm_up (pm_up V25 0 10 63) 0 11 63) 1 1 0) 1 1 = 0 from rfl)⟩⟩), hT⟩ dX11_rules_50
    · skip
      replace hT := hT.trans (if_neg c35)
      refine pm_iconst (v := (-1)) hC dX11_rules_15 ?_
      exact pm_iret hC hR pm_nar0 ⟨(-1), rfl, ⟨by omega, by omega⟩, hV29, hF32, (fun q => absurd (((congrFun (hF30 0 (by decide)) 11).symm.trans e34).symm.trans q) (by decide)), (fun _ => ⟨y27, V25, hE31, Or.inr ⟨by omega, rfl, rfl⟩⟩), hT⟩ dX11_rules_16
