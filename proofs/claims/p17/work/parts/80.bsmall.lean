noncomputable def F_X12_in (a1 a2 a3 : Int) (V0 : pm_M) : Int × pm_M := (if a1 < a2 then ((0, V0)) else ((if a3 < a1 then ((0, V0)) else ((1, V0)))))
theorem F_X12_in_eq (a1 a2 a3 : Int) (V0 : pm_M) : F_X12_in a1 a2 a3 V0 = (if a1 < a2 then ((0, V0)) else ((if a3 < a1 then ((0, V0)) else ((1, V0))))) := rfl
noncomputable def F_X12_far (a1 : Int) (V0 : pm_M) : Int × pm_M := (if 0 ≤ a1 then ((a1, V0)) else (((-a1), V0)))
theorem F_X12_far_eq (a1 : Int) (V0 : pm_M) : F_X12_far a1 V0 = (if 0 ≤ a1 then ((a1, V0)) else (((-a1), V0))) := rfl
noncomputable def F_X12_sound (a1 a2 : Int) (V0 : pm_M) : Int × pm_M := pf_let (V0 90 16) fun y3 => pf_call (F_X12_in a1 0 (y3 - 1) V0) fun y9 _ => (if y9 = 0 then (((-1), V0)) else (pf_call (F_X12_in a2 0 2 V0) fun y16 _ => (if y16 = 0 then (((-1), V0)) else (pf_let (V0 97 (((3 * a1) + a2) : Int).toNat) fun y21 => (y21, V0)))))
theorem F_X12_sound_eq (a1 a2 : Int) (V0 : pm_M) : F_X12_sound a1 a2 V0 = pf_let (V0 90 16) fun y3 => pf_call (F_X12_in a1 0 (y3 - 1) V0) fun y9 _ => (if y9 = 0 then (((-1), V0)) else (pf_call (F_X12_in a2 0 2 V0) fun y16 _ => (if y16 = 0 then (((-1), V0)) else (pf_let (V0 97 (((3 * a1) + a2) : Int).toNat) fun y21 => (y21, V0))))) := rfl
noncomputable def F_X12_areChanges (a1 a2 a3 : Int) (V0 : pm_M) : Int × pm_M := pf_call (F_X12_in a1 (-30) 30 V0) fun y4 _ => (if y4 = 0 then ((0, V0)) else (pf_call (F_X12_in a2 (-30) 30 V0) fun y11 _ => (if y11 = 0 then ((0, V0)) else (pf_call (F_X12_in a3 0 16 V0) fun y18 _ => (if y18 = 0 then ((0, V0)) else ((1, V0)))))))
theorem F_X12_areChanges_eq (a1 a2 a3 : Int) (V0 : pm_M) : F_X12_areChanges a1 a2 a3 V0 = pf_call (F_X12_in a1 (-30) 30 V0) fun y4 _ => (if y4 = 0 then ((0, V0)) else (pf_call (F_X12_in a2 (-30) 30 V0) fun y11 _ => (if y11 = 0 then ((0, V0)) else (pf_call (F_X12_in a3 0 16 V0) fun y18 _ => (if y18 = 0 then ((0, V0)) else ((1, V0))))))) := rfl
noncomputable def F_X12_person (a1 a2 a3 : Int) (V0 : pm_M) : Int × pm_M := (if a3 < 0 then (((-1), V0)) else ((if 3 < (a3 / 100) then (((-1), V0)) else (pf_call (F_X12_areChanges a1 a2 (a3 % 100) V0) fun y8 _ => (if y8 = 0 then (((-1), V0)) else (pf_let (V0 90 23) fun y12 => (if ¬ (y12 = 10) then ((((y12 + 1) - 1), (pm_up (pm_up (pm_up (pm_up (pm_up V0 100 ((4 * y12) : Int).toNat a1) 100 (((4 * y12) + 1) : Int).toNat a2) 100 (((4 * y12) + 2) : Int).toNat (a3 % 100)) 100 (((4 * y12) + 3) : Int).toNat (a3 / 100)) 90 23 (y12 + 1)))) else (((-1), V0)))))))))
theorem F_X12_person_eq (a1 a2 a3 : Int) (V0 : pm_M) : F_X12_person a1 a2 a3 V0 = (if a3 < 0 then (((-1), V0)) else ((if 3 < (a3 / 100) then (((-1), V0)) else (pf_call (F_X12_areChanges a1 a2 (a3 % 100) V0) fun y8 _ => (if y8 = 0 then (((-1), V0)) else (pf_let (V0 90 23) fun y12 => (if ¬ (y12 = 10) then ((((y12 + 1) - 1), (pm_up (pm_up (pm_up (pm_up (pm_up V0 100 ((4 * y12) : Int).toNat a1) 100 (((4 * y12) + 1) : Int).toNat a2) 100 (((4 * y12) + 2) : Int).toNat (a3 % 100)) 100 (((4 * y12) + 3) : Int).toNat (a3 / 100)) 90 23 (y12 + 1)))) else (((-1), V0))))))))) := rfl
noncomputable def F_X12_isPerson (a1 : Int) (V0 : pm_M) : Int × pm_M := pf_let (V0 90 23) fun y3 => pf_call (F_X12_in a1 0 (y3 - 1) V0) fun y9 _ => (if y9 = 0 then ((0, V0)) else ((1, V0)))
theorem F_X12_isPerson_eq (a1 : Int) (V0 : pm_M) : F_X12_isPerson a1 V0 = pf_let (V0 90 23) fun y3 => pf_call (F_X12_in a1 0 (y3 - 1) V0) fun y9 _ => (if y9 = 0 then ((0, V0)) else ((1, V0))) := rfl
noncomputable def F_X12_who (a1 a2 : Int) (V0 : pm_M) : Int × pm_M := pf_call (F_X12_isPerson a1 V0) fun y4 _ => (if y4 = 0 then (((-2147483648), V0)) else (pf_call (F_X12_in a2 0 3 V0) fun y11 _ => (if y11 = 0 then (((-2147483648), V0)) else (pf_let (V0 100 (((4 * a1) + a2) : Int).toNat) fun y16 => (y16, V0)))))
theorem F_X12_who_eq (a1 a2 : Int) (V0 : pm_M) : F_X12_who a1 a2 V0 = pf_call (F_X12_isPerson a1 V0) fun y4 _ => (if y4 = 0 then (((-2147483648), V0)) else (pf_call (F_X12_in a2 0 3 V0) fun y11 _ => (if y11 = 0 then (((-2147483648), V0)) else (pf_let (V0 100 (((4 * a1) + a2) : Int).toNat) fun y16 => (y16, V0))))) := rfl
noncomputable def F_X12_becomes (a1 a2 a3 a4 : Int) (V0 : pm_M) : Int × pm_M := pf_call (F_X12_isPerson a1 V0) fun y4 _ => (if y4 = 0 then ((0, V0)) else (pf_call (F_X12_areChanges a2 a3 a4 V0) fun y11 _ => (if ¬ (y11 = 0) then ((1, (pm_up (pm_up (pm_up V0 100 ((4 * a1) : Int).toNat a2) 100 (((4 * a1) + 1) : Int).toNat a3) 100 (((4 * a1) + 2) : Int).toNat a4))) else ((0, V0)))))
theorem F_X12_becomes_eq (a1 a2 a3 a4 : Int) (V0 : pm_M) : F_X12_becomes a1 a2 a3 a4 V0 = pf_call (F_X12_isPerson a1 V0) fun y4 _ => (if y4 = 0 then ((0, V0)) else (pf_call (F_X12_areChanges a2 a3 a4 V0) fun y11 _ => (if ¬ (y11 = 0) then ((1, (pm_up (pm_up (pm_up V0 100 ((4 * a1) : Int).toNat a2) 100 (((4 * a1) + 1) : Int).toNat a3) 100 (((4 * a1) + 2) : Int).toNat a4))) else ((0, V0))))) := rfl
noncomputable def F_X12_isTrial (a1 a2 a3 : Int) (V0 : pm_M) : Int × pm_M := (if a1 < 0 then ((0, V0)) else (pf_let (V0 90 23) fun y4 => (if y4 ≤ (a1 / 100) then ((0, V0)) else (pf_let (V0 90 16) fun y8 => (if y8 ≤ ((a1 / 10) % 10) then ((0, V0)) else ((if y8 ≤ (a1 % 10) then ((0, V0)) else (pf_call (F_X12_in a2 0 99 V0) fun y16 _ => (if y16 = 0 then ((0, V0)) else (pf_call (F_X12_in a3 (-99) 99 V0) fun y23 _ => (if y23 = 0 then ((0, V0)) else ((1, V0)))))))))))))
theorem F_X12_isTrial_eq (a1 a2 a3 : Int) (V0 : pm_M) : F_X12_isTrial a1 a2 a3 V0 = (if a1 < 0 then ((0, V0)) else (pf_let (V0 90 23) fun y4 => (if y4 ≤ (a1 / 100) then ((0, V0)) else (pf_let (V0 90 16) fun y8 => (if y8 ≤ ((a1 / 10) % 10) then ((0, V0)) else ((if y8 ≤ (a1 % 10) then ((0, V0)) else (pf_call (F_X12_in a2 0 99 V0) fun y16 _ => (if y16 = 0 then ((0, V0)) else (pf_call (F_X12_in a3 (-99) 99 V0) fun y23 _ => (if y23 = 0 then ((0, V0)) else ((1, V0))))))))))))) := rfl
noncomputable def F_X12_isLaw (a1 : Int) (V0 : pm_M) : Int × pm_M := pf_call (F_X12_in a1 0 6 V0) fun y4 _ => (y4, V0)
theorem F_X12_isLaw_eq (a1 : Int) (V0 : pm_M) : F_X12_isLaw a1 V0 = pf_call (F_X12_in a1 0 6 V0) fun y4 _ => (y4, V0) := rfl
noncomputable def F_X12_x (a1 : Int) (V0 : pm_M) : Int × pm_M := pf_let (V0 97 ((3 * a1) : Int).toNat) fun y2 => (y2, V0)
theorem F_X12_x_eq (a1 : Int) (V0 : pm_M) : F_X12_x a1 V0 = pf_let (V0 97 ((3 * a1) : Int).toNat) fun y2 => (y2, V0) := rfl
noncomputable def F_X12_y (a1 : Int) (V0 : pm_M) : Int × pm_M := pf_let (V0 97 (((3 * a1) + 1) : Int).toNat) fun y2 => (y2, V0)
theorem F_X12_y_eq (a1 : Int) (V0 : pm_M) : F_X12_y a1 V0 = pf_let (V0 97 (((3 * a1) + 1) : Int).toNat) fun y2 => (y2, V0) := rfl
noncomputable def F_X12_canBe (a1 a2 a3 : Int) (V0 : pm_M) : Int × pm_M := pf_call (F_X12_isLaw a1 V0) fun y4 _ => (if y4 = 0 then ((0, V0)) else (pf_call (F_X12_isPerson a2 V0) fun y11 _ => (if y11 = 0 then ((0, V0)) else (pf_call (F_X12_in a3 0 99 V0) fun y18 _ => (if y18 = 0 then ((0, V0)) else ((1, V0)))))))
theorem F_X12_canBe_eq (a1 a2 a3 : Int) (V0 : pm_M) : F_X12_canBe a1 a2 a3 V0 = pf_call (F_X12_isLaw a1 V0) fun y4 _ => (if y4 = 0 then ((0, V0)) else (pf_call (F_X12_isPerson a2 V0) fun y11 _ => (if y11 = 0 then ((0, V0)) else (pf_call (F_X12_in a3 0 99 V0) fun y18 _ => (if y18 = 0 then ((0, V0)) else ((1, V0))))))) := rfl
noncomputable def F_X12_areLaws (a1 : Int) (V0 : pm_M) : Int × pm_M := (if a1 < 0 then ((0, V0)) else (pf_call (F_X12_isLaw (a1 / 10) V0) fun y5 _ => (if y5 = 0 then ((0, V0)) else (pf_call (F_X12_isLaw (a1 % 10) V0) fun y12 _ => (if y12 = 0 then ((0, V0)) else ((1, V0)))))))
theorem F_X12_areLaws_eq (a1 : Int) (V0 : pm_M) : F_X12_areLaws a1 V0 = (if a1 < 0 then ((0, V0)) else (pf_call (F_X12_isLaw (a1 / 10) V0) fun y5 _ => (if y5 = 0 then ((0, V0)) else (pf_call (F_X12_isLaw (a1 % 10) V0) fun y12 _ => (if y12 = 0 then ((0, V0)) else ((1, V0))))))) := rfl
noncomputable def F_X12_kindOf (a1 : Int) (V0 : pm_M) : Int × pm_M := pf_let (V0 90 48) fun y1 => pf_let (V0 90 49) fun y4 => (if ¬ (y1 = y4) then ((if ¬ (a1 = y1) then ((if ¬ (a1 = y4) then ((3, V0)) else ((2, V0)))) else ((1, V0)))) else ((if ¬ (a1 = y1) then ((3, V0)) else ((0, V0)))))
theorem F_X12_kindOf_eq (a1 : Int) (V0 : pm_M) : F_X12_kindOf a1 V0 = pf_let (V0 90 48) fun y1 => pf_let (V0 90 49) fun y4 => (if ¬ (y1 = y4) then ((if ¬ (a1 = y1) then ((if ¬ (a1 = y4) then ((3, V0)) else ((2, V0)))) else ((1, V0)))) else ((if ¬ (a1 = y1) then ((3, V0)) else ((0, V0))))) := rfl
noncomputable def F_X12_likeliest (V0 : pm_M) : Int × pm_M := pf_val ((0 : Int), V0) (fun (q : Int × Int) => match q with | (x1, x3) => (pf_let (V0 90 16) fun y12 => (if y12 ≤ x3 then ((.inr (x1, V0))) else (pf_let (V0 112 (x3 : Int).toNat) fun y17 => pf_let (V0 112 (x1 : Int).toNat) fun y20 => pf_let (pm_cmp y17 y20) fun y23 => (if y23 ≤ 0 then (pf_let (x3 + 1) fun x26 => (.inl (x1, x26))) else (pf_let (x3 + 1) fun x28 => (.inl (x3, x28)))))))) (0, 1)
theorem F_X12_likeliest_eq (V0 : pm_M) : F_X12_likeliest V0 = pf_val ((0 : Int), V0) (fun (q : Int × Int) => match q with | (x1, x3) => (pf_let (V0 90 16) fun y12 => (if y12 ≤ x3 then ((.inr (x1, V0))) else (pf_let (V0 112 (x3 : Int).toNat) fun y17 => pf_let (V0 112 (x1 : Int).toNat) fun y20 => pf_let (pm_cmp y17 y20) fun y23 => (if y23 ≤ 0 then (pf_let (x3 + 1) fun x26 => (.inl (x1, x26))) else (pf_let (x3 + 1) fun x28 => (.inl (x3, x28)))))))) (0, 1) := rfl
noncomputable def F_X12_noticedNow (V0 : pm_M) : Int × pm_M := pf_let (V0 90 47) fun y1 => pf_let (V0 90 44) fun y4 => pf_let (((16 - y1) * y4)) fun y7 => pf_let (V0 90 45) fun y9 => pf_let ((y7 * y9)) fun y12 => pf_let (V0 90 16) fun y14 => pf_let ((y1 * y14)) fun y17 => pf_let (V0 90 46) fun y19 => pf_let ((y17 * y19)) fun y22 => pf_let (pm_cmp (y12 + y22) 0) fun y24 => (if ¬ (y24 = 0) then (pf_let (pm_w64 (Int.tdiv (1000 * y12) (y12 + y22))) fun y27 => pf_let (pm_w32 y27) fun y30 => (y30, V0)) else ((1000, V0)))
theorem F_X12_noticedNow_eq (V0 : pm_M) : F_X12_noticedNow V0 = pf_let (V0 90 47) fun y1 => pf_let (V0 90 44) fun y4 => pf_let (((16 - y1) * y4)) fun y7 => pf_let (V0 90 45) fun y9 => pf_let ((y7 * y9)) fun y12 => pf_let (V0 90 16) fun y14 => pf_let ((y1 * y14)) fun y17 => pf_let (V0 90 46) fun y19 => pf_let ((y17 * y19)) fun y22 => pf_let (pm_cmp (y12 + y22) 0) fun y24 => (if ¬ (y24 = 0) then (pf_let (pm_w64 (Int.tdiv (1000 * y12) (y12 + y22))) fun y27 => pf_let (pm_w32 y27) fun y30 => (y30, V0)) else ((1000, V0))) := rfl
noncomputable def F_X12_undo (V0 : pm_M) : Int × pm_M := pf_let (V0 90 25) fun y1 => (if ¬ (y1 = 0) then (((y1 - 1), (pm_up V0 90 25 (y1 - 1)))) else (((-1), V0)))
theorem F_X12_undo_eq (V0 : pm_M) : F_X12_undo V0 = pf_let (V0 90 25) fun y1 => (if ¬ (y1 = 0) then (((y1 - 1), (pm_up V0 90 25 (y1 - 1)))) else (((-1), V0))) := rfl
noncomputable def F_X12_isOf (a1 a2 : Int) (V0 : pm_M) : Int × pm_M := (if a2 = (-1) then ((1, V0)) else (pf_let (V0 101 ((5 * a1) : Int).toNat) fun y4 => pf_let (V0 100 (((4 * (y4 / 100)) + 3) : Int).toNat) fun y7 => (if ¬ (y7 = a2) then ((0, V0)) else ((1, V0)))))
theorem F_X12_isOf_eq (a1 a2 : Int) (V0 : pm_M) : F_X12_isOf a1 a2 V0 = (if a2 = (-1) then ((1, V0)) else (pf_let (V0 101 ((5 * a1) : Int).toNat) fun y4 => pf_let (V0 100 (((4 * (y4 / 100)) + 3) : Int).toNat) fun y7 => (if ¬ (y7 = a2) then ((0, V0)) else ((1, V0))))) := rfl
noncomputable def F_X12_brought (a1 : Int) (V0 : pm_M) : Int × pm_M := pf_let (pm_cmp a1 (-1000000)) fun y1 => (if 0 ≤ y1 then (pf_let (pm_cmp a1 1000000) fun y4 => (if y4 ≤ 0 then ((a1, V0)) else ((1000000, V0)))) else (((-1000000), V0)))
theorem F_X12_brought_eq (a1 : Int) (V0 : pm_M) : F_X12_brought a1 V0 = pf_let (pm_cmp a1 (-1000000)) fun y1 => (if 0 ≤ y1 then (pf_let (pm_cmp a1 1000000) fun y4 => (if y4 ≤ 0 then ((a1, V0)) else ((1000000, V0)))) else (((-1000000), V0))) := rfl
set_option maxHeartbeats 4000000 in
set_option maxRecDepth 100000 in
theorem fB_X12_in (a1 a2 a3 : Int) (h0 : (-2147483648) ≤ a1 ∧ a1 ≤ 2147483647) (h1 : (-2147483648) ≤ a2 ∧ a2 ≤ 2147483647) (h2 : (-2147483648) ≤ a3 ∧ a3 ≤ 2147483647) : pm_K 1 yX12_in cX12_in 3 (some .boolean) (fun av V => av = [(0, a1), (0, a2), (0, a3)] ∧ pm_oq pm_qB V) (fun _ V r V' => ∃ y, r = some (0, y) ∧ (0 ≤ y ∧ y ≤ 1 ∧ (y = 1 → a2 ≤ a1 ∧ a1 ≤ a3)) ∧ V = V' ∧ F_X12_in a1 a2 a3 V = (y, V)) := by
  refine pm_MT.of (by decide) ⟨Nat.le_refl _, by decide⟩ (fun av V h => by rw [h.1]; exact (by decide : pm_words [(0, 0), (0, 0), (0, 0)] ≤ 3)) ?_
  rintro X av V0 hC - hR ⟨rfl, hV0⟩
  change pm_J X 0 [(0, (0, a1)), (1, (0, a2)), (2, (0, a3))] [] 118 V0
  have hT := F_X12_in_eq a1 a2 a3 V0
  refine pm_iload_n hC 0 dX12_in_0 rfl ?_
  refine pm_iload_n hC 1 dX12_in_1 rfl ?_
  refine pm_icmp_lt (tgt := 14) hC ⟨by omega, by omega⟩ ⟨by omega, by omega⟩ dX12_in_2 (by decide) (fun c1 => ?_) (fun c1 => ?_)
  · skip
    replace hT := hT.trans (if_pos c1)
    refine pm_iconst (v := 0) hC dX12_in_14 ?_
    exact pm_iret hC hR (pm_narZ (by omega)) ⟨0, rfl, ⟨by omega, by omega, by omega⟩, rfl, hT⟩ dX12_in_15
  · skip
    replace hT := hT.trans (if_neg (Int.not_lt.mpr c1))
    refine pm_iload_n hC 0 dX12_in_5 rfl ?_
    refine pm_iload_n hC 2 dX12_in_6 rfl ?_
    refine pm_icmp_gt (tgt := 14) hC ⟨by omega, by omega⟩ ⟨by omega, by omega⟩ dX12_in_7 (by decide) (fun c2 => ?_) (fun c2 => ?_)
    · skip
      replace hT := hT.trans (if_pos c2)
      refine pm_iconst (v := 0) hC dX12_in_14 ?_
      exact pm_iret hC hR (pm_narZ (by omega)) ⟨0, rfl, ⟨by omega, by omega, by omega⟩, rfl, hT⟩ dX12_in_15
    · skip
      replace hT := hT.trans (if_neg (Int.not_lt.mpr c2))
      refine pm_iconst (v := 1) hC dX12_in_10 ?_
      refine pm_goto (tgt := 15) hC dX12_in_11 (by decide) ?_
      exact pm_iret hC hR (pm_narZ (by omega)) ⟨1, rfl, ⟨by omega, by omega, by omega⟩, rfl, hT⟩ dX12_in_15
set_option maxHeartbeats 4000000 in
set_option maxRecDepth 100000 in
theorem fB_X12_far (a1 : Int) (h0 : (-2147483647) ≤ a1 ∧ a1 ≤ 2147483647) : pm_K 1 yX12_far cX12_far 1 (some .int) (fun av V => av = [(0, a1)] ∧ pm_oq pm_qB V) (fun _ V r V' => ∃ y, r = some (0, y) ∧ (0 ≤ y ∧ y ≤ 2147483647 ∧ (0 ≤ a1 → y = a1) ∧ (a1 < 0 → y = -a1)) ∧ V = V' ∧ F_X12_far a1 V = (y, V)) := by
  refine pm_MT.of (by decide) ⟨Nat.le_refl _, by decide⟩ (fun av V h => by rw [h.1]; exact (by decide : pm_words [(0, 0)] ≤ 1)) ?_
  rintro X av V0 hC - hR ⟨rfl, hV0⟩
  change pm_J X 0 [(0, (0, a1))] [] 118 V0
  have hT := F_X12_far_eq a1 V0
  refine pm_iload_n hC 0 dX12_far_0 rfl ?_
  refine pm_if_ge (tgt := 9) hC ⟨by omega, by omega⟩ dX12_far_1 (by decide) (fun c1 => ?_) (fun c1 => ?_)
  · skip
    replace hT := hT.trans (if_pos c1)
    refine pm_iload_n hC 0 dX12_far_9 rfl ?_
    exact pm_iret hC hR pm_nar0 ⟨a1, rfl, ⟨by omega, by omega, by omega, by omega⟩, rfl, hT⟩ dX12_far_10
  · skip
    replace hT := hT.trans (if_neg (Int.not_le.mpr c1))
    refine pm_iload_n hC 0 dX12_far_4 rfl ?_
    refine pm_ineg hC dX12_far_5 ?_
    refine pm_goto (tgt := 10) hC dX12_far_6 (by decide) ?_
    exact pm_iret hC hR pm_nar0 ⟨(-a1), rfl, ⟨by omega, by omega, by omega, by omega⟩, rfl, hT⟩ dX12_far_10
set_option maxHeartbeats 4000000 in
set_option maxRecDepth 100000 in
theorem fB_X12_sound (a1 a2 : Int) (h0 : (-2147483648) ≤ a1 ∧ a1 ≤ 2147483647) (h1 : (-2147483648) ≤ a2 ∧ a2 ≤ 2147483647) : pm_K 2 yX12_sound cX12_sound 3 (some .int) (fun av V => av = [(3, 90), (0, a1), (0, a2)] ∧ pm_oq pm_qB V) (fun _ V r V' => ∃ y, r = some (0, y) ∧ ((-1) ≤ y ∧ y ≤ 99) ∧ V = V' ∧ F_X12_sound a1 a2 V = (y, V)) := by
  refine pm_MT.of (by decide) ⟨Nat.le_refl _, by decide⟩ (fun av V h => by rw [h.1]; exact (by decide : pm_words [(3, 0), (0, 0), (0, 0)] ≤ 3)) ?_
  rintro X av V0 hC - hR ⟨rfl, hV0⟩
  change pm_J X 0 [(0, (3, 90)), (1, (0, a1)), (2, (0, a2))] [] 118 V0
  have hT := F_X12_sound_eq a1 a2 V0
  refine pm_aload_n hC 0 (by decide) dX12_sound_0 rfl ?_
  have e1 : V0 90 15 = 1 := hV0.one 90 15 (by decide) (by decide) rfl
  refine pm_getf (v := 1) hC 90 fl_X12_216 rfl rfl (by decide) rfl e1 dX12_sound_1 ?_
  refine pm_if_eq (tgt := 43) hC ⟨by decide, by decide⟩ dX12_sound_4 (by decide) (fun c2 => ?_) (fun c2 => ?_)
  · skip
    exfalso; omega
  · skip
    refine pm_iload_n hC 1 dX12_sound_7 rfl ?_
    refine pm_iconst (v := 0) hC dX12_sound_8 ?_
    refine pm_aload_n hC 0 (by decide) dX12_sound_9 rfl ?_
    obtain ⟨y3, e4⟩ : ∃ y, V0 90 16 = y := ⟨_, rfl⟩
    have b5 := hV0.get 90 16 (lo := 2) (hi := 9) (by decide) (by decide) rfl
    rw [e4] at b5
    replace hT := hT.trans (pf_let_eq e4)
    refine pm_getf (v := y3) hC 90 fl_X12_220 rfl rfl (by decide) rfl e4 dX12_sound_10 ?_
    refine pm_iconst (v := 1) hC dX12_sound_13 ?_
    refine pm_isub hC dX12_sound_14 ?_
    refine pm_callS (as := [(0, a1), (0, 0), (0, (y3 - 1))]) (st := []) hC (fB_X12_in a1 0 (y3 - 1) ⟨by omega, by omega⟩ ⟨by decide, by decide⟩ ⟨by omega, by omega⟩) lm_X12_98 ls_X12_in (by decide) (by decide) rfl rfl (Nat.le_of_ble_eq_true rfl) ⟨Nat.le_refl _, Or.inl rfl⟩ dX12_sound_15 ⟨rfl, hV0⟩ (fun r6 V7 hp8 => ?_)
    obtain ⟨y9, rfl, b10, rfl, hE11⟩ := hp8
    replace hT := hT.trans (pf_call_eq hE11)
    change pm_J X 18 [(0, (3, 90)), (1, (0, a1)), (2, (0, a2))] [(0, y9)] 118 V0
    refine pm_if_eq (tgt := 43) hC ⟨by omega, by omega⟩ dX12_sound_18 (by decide) (fun c12 => ?_) (fun c12 => ?_)
    · skip
      replace hT := hT.trans (if_pos c12)
      refine pm_iconst (v := (-1)) hC dX12_sound_43 ?_
      exact pm_iret hC hR pm_nar0 ⟨(-1), rfl, ⟨by omega, by omega⟩, rfl, hT⟩ dX12_sound_44
    · skip
      replace hT := hT.trans (if_neg c12)
      refine pm_iload_n hC 2 dX12_sound_21 rfl ?_
      refine pm_iconst (v := 0) hC dX12_sound_22 ?_
      refine pm_iconst (v := 2) hC dX12_sound_23 ?_
      refine pm_callS (as := [(0, a2), (0, 0), (0, 2)]) (st := []) hC (fB_X12_in a2 0 2 ⟨by omega, by omega⟩ ⟨by decide, by decide⟩ ⟨by decide, by decide⟩) lm_X12_98 ls_X12_in (by decide) (by decide) rfl rfl (Nat.le_of_ble_eq_true rfl) ⟨Nat.le_refl _, Or.inl rfl⟩ dX12_sound_24 ⟨rfl, hV0⟩ (fun r13 V14 hp15 => ?_)
      obtain ⟨y16, rfl, b17, rfl, hE18⟩ := hp15
      replace hT := hT.trans (pf_call_eq hE18)
      change pm_J X 27 [(0, (3, 90)), (1, (0, a1)), (2, (0, a2))] [(0, y16)] 118 V0
      refine pm_if_eq (tgt := 43) hC ⟨by omega, by omega⟩ dX12_sound_27 (by decide) (fun c19 => ?_) (fun c19 => ?_)
      · skip
        replace hT := hT.trans (if_pos c19)
        refine pm_iconst (v := (-1)) hC dX12_sound_43 ?_
        exact pm_iret hC hR pm_nar0 ⟨(-1), rfl, ⟨by omega, by omega⟩, rfl, hT⟩ dX12_sound_44
      · skip
        replace hT := hT.trans (if_neg c19)
        refine pm_aload_n hC 0 (by decide) dX12_sound_30 rfl ?_
        have e20 : V0 90 17 = 97 := hV0.one 90 17 (by decide) (by decide) rfl
        refine pm_getf (v := 97) hC 90 fl_X12_31 rfl rfl (by decide) rfl e20 dX12_sound_31 ?_
        refine pm_iconst (v := 3) hC dX12_sound_34 ?_
        refine pm_iload_n hC 1 dX12_sound_35 rfl ?_
        refine pm_imul hC dX12_sound_36 ?_
        refine pm_iload_n hC 2 dX12_sound_37 rfl ?_
        refine pm_iadd hC dX12_sound_38 ?_
        obtain ⟨y21, e22⟩ : ∃ y, V0 97 (((3 * a1) + a2) : Int).toNat = y := ⟨_, rfl⟩
        replace hT := hT.trans (pf_let_eq e22)
        have be24 := hV0 97 (by decide) (by decide) (((3 * a1) + a2) : Int).toNat (show _ < 27 by omega)
        rw [e22] at be24
        have b23 : 0 ≤ y21 ∧ y21 ≤ 99 := pm_qhull be24 rfl rfl (by decide)
        refine pm_iaload (len := 27) (v := y21) hC 97 rfl rfl (by decide) ⟨by omega, by omega⟩ (by decide) e22 dX12_sound_39 ?_
        refine pm_goto (tgt := 44) hC dX12_sound_40 (by decide) ?_
        exact pm_iret hC hR pm_nar0 ⟨y21, rfl, ⟨by omega, by omega⟩, rfl, hT⟩ dX12_sound_44
set_option maxHeartbeats 4000000 in
set_option maxRecDepth 100000 in
theorem fB_X12_areChanges (a1 a2 a3 : Int) (h0 : (-2147483648) ≤ a1 ∧ a1 ≤ 2147483647) (h1 : (-2147483648) ≤ a2 ∧ a2 ≤ 2147483647) (h2 : (-2147483648) ≤ a3 ∧ a3 ≤ 2147483647) : pm_K 2 yX12_areChanges cX12_areChanges 3 (some .boolean) (fun av V => av = [(0, a1), (0, a2), (0, a3)] ∧ pm_oq pm_qB V) (fun _ V r V' => ∃ y, r = some (0, y) ∧ (0 ≤ y ∧ y ≤ 1 ∧ (y = 1 → ((-30) ≤ a1 ∧ a1 ≤ 30 ∧ (-30) ≤ a2 ∧ a2 ≤ 30 ∧ 0 ≤ a3 ∧ a3 ≤ 16))) ∧ V = V' ∧ F_X12_areChanges a1 a2 a3 V = (y, V)) := by
  refine pm_MT.of (by decide) ⟨Nat.le_refl _, by decide⟩ (fun av V h => by rw [h.1]; exact (by decide : pm_words [(0, 0), (0, 0), (0, 0)] ≤ 3)) ?_
  rintro X av V0 hC - hR ⟨rfl, hV0⟩
  change pm_J X 0 [(0, (0, a1)), (1, (0, a2)), (2, (0, a3))] [] 118 V0
  have hT := F_X12_areChanges_eq a1 a2 a3 V0
  refine pm_iload_n hC 0 dX12_areChanges_0 rfl ?_
  refine pm_bipush (v := (-30)) hC dX12_areChanges_1 (by decide) ?_
  refine pm_bipush (v := 30) hC dX12_areChanges_3 (by decide) ?_
  refine pm_callS (as := [(0, a1), (0, (-30)), (0, 30)]) (st := []) hC (fB_X12_in a1 (-30) 30 ⟨by omega, by omega⟩ ⟨by decide, by decide⟩ ⟨by decide, by decide⟩) lm_X12_98 ls_X12_in (by decide) (by decide) rfl rfl (Nat.le_of_ble_eq_true rfl) ⟨Nat.le_refl _, Or.inl rfl⟩ dX12_areChanges_5 ⟨rfl, hV0⟩ (fun r1 V2 hp3 => ?_)
  obtain ⟨y4, rfl, b5, rfl, hE6⟩ := hp3
  replace hT := hT.trans (pf_call_eq hE6)
  change pm_J X 8 [(0, (0, a1)), (1, (0, a2)), (2, (0, a3))] [(0, y4)] 118 V0
  refine pm_if_eq (tgt := 36) hC ⟨by omega, by omega⟩ dX12_areChanges_8 (by decide) (fun c7 => ?_) (fun c7 => ?_)
  · skip
    replace hT := hT.trans (if_pos c7)
    refine pm_iconst (v := 0) hC dX12_areChanges_36 ?_
    exact pm_iret hC hR (pm_narZ (by omega)) ⟨0, rfl, ⟨by omega, by omega, by omega⟩, rfl, hT⟩ dX12_areChanges_37
  · skip
    replace hT := hT.trans (if_neg c7)
    refine pm_iload_n hC 1 dX12_areChanges_11 rfl ?_
    refine pm_bipush (v := (-30)) hC dX12_areChanges_12 (by decide) ?_
    refine pm_bipush (v := 30) hC dX12_areChanges_14 (by decide) ?_
    refine pm_callS (as := [(0, a2), (0, (-30)), (0, 30)]) (st := []) hC (fB_X12_in a2 (-30) 30 ⟨by omega, by omega⟩ ⟨by decide, by decide⟩ ⟨by decide, by decide⟩) lm_X12_98 ls_X12_in (by decide) (by decide) rfl rfl (Nat.le_of_ble_eq_true rfl) ⟨Nat.le_refl _, Or.inl rfl⟩ dX12_areChanges_16 ⟨rfl, hV0⟩ (fun r8 V9 hp10 => ?_)
    obtain ⟨y11, rfl, b12, rfl, hE13⟩ := hp10
    replace hT := hT.trans (pf_call_eq hE13)
    change pm_J X 19 [(0, (0, a1)), (1, (0, a2)), (2, (0, a3))] [(0, y11)] 118 V0
    refine pm_if_eq (tgt := 36) hC ⟨by omega, by omega⟩ dX12_areChanges_19 (by decide) (fun c14 => ?_) (fun c14 => ?_)
    · skip
      replace hT := hT.trans (if_pos c14)
      refine pm_iconst (v := 0) hC dX12_areChanges_36 ?_
      exact pm_iret hC hR (pm_narZ (by omega)) ⟨0, rfl, ⟨by omega, by omega, by omega⟩, rfl, hT⟩ dX12_areChanges_37
    · skip
      replace hT := hT.trans (if_neg c14)
      refine pm_iload_n hC 2 dX12_areChanges_22 rfl ?_
      refine pm_iconst (v := 0) hC dX12_areChanges_23 ?_
      refine pm_bipush (v := 16) hC dX12_areChanges_24 (by decide) ?_
      refine pm_callS (as := [(0, a3), (0, 0), (0, 16)]) (st := []) hC (fB_X12_in a3 0 16 ⟨by omega, by omega⟩ ⟨by decide, by decide⟩ ⟨by decide, by decide⟩) lm_X12_98 ls_X12_in (by decide) (by decide) rfl rfl (Nat.le_of_ble_eq_true rfl) ⟨Nat.le_refl _, Or.inl rfl⟩ dX12_areChanges_26 ⟨rfl, hV0⟩ (fun r15 V16 hp17 => ?_)
      obtain ⟨y18, rfl, b19, rfl, hE20⟩ := hp17
      replace hT := hT.trans (pf_call_eq hE20)
      change pm_J X 29 [(0, (0, a1)), (1, (0, a2)), (2, (0, a3))] [(0, y18)] 118 V0
      refine pm_if_eq (tgt := 36) hC ⟨by omega, by omega⟩ dX12_areChanges_29 (by decide) (fun c21 => ?_) (fun c21 => ?_)
      · skip
        replace hT := hT.trans (if_pos c21)
        refine pm_iconst (v := 0) hC dX12_areChanges_36 ?_
        exact pm_iret hC hR (pm_narZ (by omega)) ⟨0, rfl, ⟨by omega, by omega, by omega⟩, rfl, hT⟩ dX12_areChanges_37
      · skip
        replace hT := hT.trans (if_neg c21)
        refine pm_iconst (v := 1) hC dX12_areChanges_32 ?_
        refine pm_goto (tgt := 37) hC dX12_areChanges_33 (by decide) ?_
        exact pm_iret hC hR (pm_narZ (by omega)) ⟨1, rfl, ⟨by omega, by omega, by omega⟩, rfl, hT⟩ dX12_areChanges_37
set_option maxHeartbeats 4000000 in
set_option maxRecDepth 100000 in
theorem fB_X12_person (a1 a2 a3 : Int) (h0 : (-2147483648) ≤ a1 ∧ a1 ≤ 2147483647) (h1 : (-2147483648) ≤ a2 ∧ a2 ≤ 2147483647) (h2 : (-2147483648) ≤ a3 ∧ a3 ≤ 2147483647) : pm_K 3 yX12_person cX12_person 4 (some .int) (fun av V => av = [(3, 90), (0, a1), (0, a2), (0, a3)] ∧ pm_oq pm_qB V) (fun _ V r V' => ∃ y, r = some (0, y) ∧ ((-1) ≤ y ∧ y ≤ 9) ∧ pm_oq pm_qB V' ∧ pm_fs [100] [23] V V' ∧ F_X12_person a1 a2 a3 V = (y, V')) := by
  refine pm_MT.of (by decide) ⟨Nat.le_refl _, by decide⟩ (fun av V h => by rw [h.1]; exact (by decide : pm_words [(3, 0), (0, 0), (0, 0), (0, 0)] ≤ 4)) ?_
  rintro X av V0 hC - hR ⟨rfl, hV0⟩
  change pm_J X 0 [(0, (3, 90)), (1, (0, a1)), (2, (0, a2)), (3, (0, a3))] [] 118 V0
  have hT := F_X12_person_eq a1 a2 a3 V0
  refine pm_aload_n hC 0 (by decide) dX12_person_0 rfl ?_
  have e1 : V0 90 15 = 1 := hV0.one 90 15 (by decide) (by decide) rfl
  refine pm_getf (v := 1) hC 90 fl_X12_216 rfl rfl (by decide) rfl e1 dX12_person_1 ?_
  refine pm_if_eq (tgt := 40) hC ⟨by decide, by decide⟩ dX12_person_4 (by decide) (fun c2 => ?_) (fun c2 => ?_)
  · skip
    exfalso; omega
  · skip
    refine pm_iload_n hC 3 dX12_person_7 rfl ?_
    refine pm_if_lt (tgt := 40) hC ⟨by omega, by omega⟩ dX12_person_8 (by decide) (fun c3 => ?_) (fun c3 => ?_)
    · skip
      replace hT := hT.trans (if_pos c3)
      refine pm_iconst (v := (-1)) hC dX12_person_40 ?_
      exact pm_iret hC hR pm_nar0 ⟨(-1), rfl, ⟨by omega, by omega⟩, hV0, (pm_fs.rf (cs := [100]) (fs := [23]) (V := V0)), hT⟩ dX12_person_41
    · skip
      replace hT := hT.trans (if_neg (Int.not_lt.mpr c3))
      refine pm_iload_n hC 3 dX12_person_11 rfl ?_
      refine pm_bipush (v := 100) hC dX12_person_12 (by decide) ?_
      refine pm_idiv hC ⟨by omega, by omega, by omega⟩ ⟨by decide, by decide, by decide⟩ dX12_person_14 ?_
      refine pm_iconst (v := 3) hC dX12_person_15 ?_
      refine pm_icmp_gt (tgt := 40) hC ⟨by omega, by omega⟩ ⟨by decide, by decide⟩ dX12_person_16 (by decide) (fun c4 => ?_) (fun c4 => ?_)
      · skip
        replace hT := hT.trans (if_pos c4)
        refine pm_iconst (v := (-1)) hC dX12_person_40 ?_
        exact pm_iret hC hR pm_nar0 ⟨(-1), rfl, ⟨by omega, by omega⟩, hV0, (pm_fs.rf (cs := [100]) (fs := [23]) (V := V0)), hT⟩ dX12_person_41
      · skip
        replace hT := hT.trans (if_neg (Int.not_lt.mpr c4))
        refine pm_iload_n hC 1 dX12_person_19 rfl ?_
        refine pm_iload_n hC 2 dX12_person_20 rfl ?_
        refine pm_iload_n hC 3 dX12_person_21 rfl ?_
        refine pm_bipush (v := 100) hC dX12_person_22 (by decide) ?_
        refine pm_irem hC ⟨by omega, by omega, by omega⟩ ⟨by decide, by decide, by decide⟩ dX12_person_24 ?_
        refine pm_callS (as := [(0, a1), (0, a2), (0, (a3 % 100))]) (st := []) hC (fB_X12_areChanges a1 a2 (a3 % 100) ⟨by omega, by omega⟩ ⟨by omega, by omega⟩ ⟨by omega, by omega⟩) lm_X12_299 ls_X12_areChanges (by decide) (by decide) rfl rfl (Nat.le_of_ble_eq_true rfl) ⟨Nat.le_refl _, Or.inl rfl⟩ dX12_person_25 ⟨rfl, hV0⟩ (fun r5 V6 hp7 => ?_)
        obtain ⟨y8, rfl, b9, rfl, hE10⟩ := hp7
        replace hT := hT.trans (pf_call_eq hE10)
        change pm_J X 28 [(0, (3, 90)), (1, (0, a1)), (2, (0, a2)), (3, (0, a3))] [(0, y8)] 118 V0
        refine pm_if_eq (tgt := 40) hC ⟨by omega, by omega⟩ dX12_person_28 (by decide) (fun c11 => ?_) (fun c11 => ?_)
        · skip
          replace hT := hT.trans (if_pos c11)
          refine pm_iconst (v := (-1)) hC dX12_person_40 ?_
          exact pm_iret hC hR pm_nar0 ⟨(-1), rfl, ⟨by omega, by omega⟩, hV0, (pm_fs.rf (cs := [100]) (fs := [23]) (V := V0)), hT⟩ dX12_person_41
        · skip
          replace hT := hT.trans (if_neg c11)
          refine pm_aload_n hC 0 (by decide) dX12_person_31 rfl ?_
          obtain ⟨y12, e13⟩ : ∃ y, V0 90 23 = y := ⟨_, rfl⟩
          have b14 := hV0.get 90 23 (lo := 0) (hi := 10) (by decide) (by decide) rfl
          rw [e13] at b14
          replace hT := hT.trans (pf_let_eq e13)
          refine pm_getf (v := y12) hC 90 fl_X12_232 rfl rfl (by decide) rfl e13 dX12_person_32 ?_
          refine pm_bipush (v := 10) hC dX12_person_35 (by decide) ?_
          refine pm_icmp_ne (tgt := 42) hC ⟨by omega, by omega⟩ ⟨by decide, by decide⟩ dX12_person_37 (by decide) (fun c15 => ?_) (fun c15 => ?_)
          · skip
            replace hT := hT.trans (if_pos c15)
            refine pm_aload_n hC 0 (by decide) dX12_person_42 rfl ?_
            have e16 : V0 90 24 = 100 := hV0.one 90 24 (by decide) (by decide) rfl
            refine pm_getf (v := 100) hC 90 fl_X12_40 rfl rfl (by decide) rfl e16 dX12_person_43 ?_
            refine pm_iconst (v := 4) hC dX12_person_46 ?_
            refine pm_aload_n hC 0 (by decide) dX12_person_47 rfl ?_
            refine pm_getf (v := y12) hC 90 fl_X12_232 rfl rfl (by decide) rfl e13 dX12_person_48 ?_
            refine pm_imul hC dX12_person_51 ?_
            refine pm_iload_n hC 1 dX12_person_52 rfl ?_
            refine pm_iastore (len := 40) hC 100 rfl rfl (by decide) ⟨by omega, by omega⟩ (by decide) dX12_person_53 ?_
            refine pm_aload_n hC 0 (by decide) dX12_person_54 rfl ?_
            refine pm_getf (v := 100) hC 90 fl_X12_40 rfl rfl (by decide) rfl e16 dX12_person_55 ?_
            refine pm_iconst (v := 4) hC dX12_person_58 ?_
            refine pm_aload_n hC 0 (by decide) dX12_person_59 rfl ?_
            refine pm_getf (v := y12) hC 90 fl_X12_232 rfl rfl (by decide) rfl e13 dX12_person_60 ?_
            refine pm_imul hC dX12_person_63 ?_
            refine pm_iconst (v := 1) hC dX12_person_64 ?_
            refine pm_iadd hC dX12_person_65 ?_
            refine pm_iload_n hC 2 dX12_person_66 rfl ?_
            refine pm_iastore (len := 40) hC 100 rfl rfl (by decide) ⟨by omega, by omega⟩ (by decide) dX12_person_67 ?_
            refine pm_aload_n hC 0 (by decide) dX12_person_68 rfl ?_
            refine pm_getf (v := 100) hC 90 fl_X12_40 rfl rfl (by decide) rfl e16 dX12_person_69 ?_
            refine pm_iconst (v := 4) hC dX12_person_72 ?_
            refine pm_aload_n hC 0 (by decide) dX12_person_73 rfl ?_
            refine pm_getf (v := y12) hC 90 fl_X12_232 rfl rfl (by decide) rfl e13 dX12_person_74 ?_
            refine pm_imul hC dX12_person_77 ?_
            refine pm_iconst (v := 2) hC dX12_person_78 ?_
            refine pm_iadd hC dX12_person_79 ?_
            refine pm_iload_n hC 3 dX12_person_80 rfl ?_
            refine pm_bipush (v := 100) hC dX12_person_81 (by decide) ?_
            refine pm_irem hC ⟨by omega, by omega, by omega⟩ ⟨by decide, by decide, by decide⟩ dX12_person_83 ?_
            refine pm_iastore (len := 40) hC 100 rfl rfl (by decide) ⟨by omega, by omega⟩ (by decide) dX12_person_84 ?_
            refine pm_aload_n hC 0 (by decide) dX12_person_85 rfl ?_
            refine pm_getf (v := 100) hC 90 fl_X12_40 rfl rfl (by decide) rfl e16 dX12_person_86 ?_
            refine pm_iconst (v := 4) hC dX12_person_89 ?_
            refine pm_aload_n hC 0 (by decide) dX12_person_90 rfl ?_
            refine pm_getf (v := y12) hC 90 fl_X12_232 rfl rfl (by decide) rfl e13 dX12_person_91 ?_
            refine pm_imul hC dX12_person_94 ?_
            refine pm_iconst (v := 3) hC dX12_person_95 ?_
            refine pm_iadd hC dX12_person_96 ?_
            refine pm_iload_n hC 3 dX12_person_97 rfl ?_
            refine pm_bipush (v := 100) hC dX12_person_98 (by decide) ?_
            refine pm_idiv hC ⟨by omega, by omega, by omega⟩ ⟨by decide, by decide, by decide⟩ dX12_person_100 ?_
            refine pm_iastore (len := 40) hC 100 rfl rfl (by decide) ⟨by omega, by omega⟩ (by decide) dX12_person_101 ?_
            refine pm_aload_n hC 0 (by decide) dX12_person_102 rfl ?_
            refine pm_dup hC rfl dX12_person_103 ?_
            refine pm_getf (v := y12) hC 90 fl_X12_232 rfl rfl (by decide) rfl e13 dX12_person_104 ?_
            refine pm_iconst (v := 1) hC dX12_person_107 ?_
            refine pm_iadd hC dX12_person_108 ?_
            refine pm_putf hC 90 fl_X12_232 rfl rfl rfl (by decide) rfl trivial dX12_person_109 ?_
            refine pm_aload_n hC 0 (by decide) dX12_person_112 rfl ?_
            refine pm_getf (v := (y12 + 1)) hC 90 fl_X12_232 rfl rfl (by decide) rfl rfl dX12_person_113 ?_
            refine pm_iconst (v := 1) hC dX12_person_116 ?_
            refine pm_isub hC dX12_person_117 ?_
            exact pm_iret hC hR pm_nar0 ⟨((y12 + 1) - 1), rfl, ⟨by omega, by omega⟩, (((((hV0.put 100 ((4 * y12) : Int).toNat (x := a1) (lo := (-30)) (hi := 30) ((pm_qe_r (tb := pm_qB) (k := 100) (i := ((4 * y12) : Int).toNat) (m := 4) (r := 0) (l := [(-30, 30, 0), (-30, 30, 0), (0, 16, 0), (0, 3, 0)]) rfl rfl (by omega)).trans rfl) ⟨by omega, by omega⟩).put 100 (((4 * y12) + 1) : Int).toNat (x := a2) (lo := (-30)) (hi := 30) ((pm_qe_r (tb := pm_qB) (k := 100) (i := (((4 * y12) + 1) : Int).toNat) (m := 4) (r := 1) (l := [(-30, 30, 0), (-30, 30, 0), (0, 16, 0), (0, 3, 0)]) rfl rfl (by omega)).trans rfl) ⟨by omega, by omega⟩).put 100 (((4 * y12) + 2) : Int).toNat (x := (a3 % 100)) (lo := 0) (hi := 16) ((pm_qe_r (tb := pm_qB) (k := 100) (i := (((4 * y12) + 2) : Int).toNat) (m := 4) (r := 2) (l := [(-30, 30, 0), (-30, 30, 0), (0, 16, 0), (0, 3, 0)]) rfl rfl (by omega)).trans rfl) ⟨by omega, by omega⟩).put 100 (((4 * y12) + 3) : Int).toNat (x := (a3 / 100)) (lo := 0) (hi := 3) ((pm_qe_r (tb := pm_qB) (k := 100) (i := (((4 * y12) + 3) : Int).toNat) (m := 4) (r := 3) (l := [(-30, 30, 0), (-30, 30, 0), (0, 16, 0), (0, 3, 0)]) rfl rfl (by omega)).trans rfl) ⟨by omega, by omega⟩).put 90 23 (x := (y12 + 1)) (lo := 0) (hi := 10) rfl ⟨by omega, by omega⟩), ((((((pm_fs.rf (cs := [100]) (fs := [23]) (V := V0)).up 100 ((4 * y12) : Int).toNat a1 (by decide) rfl).up 100 (((4 * y12) + 1) : Int).toNat a2 (by decide) rfl).up 100 (((4 * y12) + 2) : Int).toNat (a3 % 100) (by decide) rfl).up 100 (((4 * y12) + 3) : Int).toNat (a3 / 100) (by decide) rfl).upf 23 (y12 + 1) rfl), hT⟩ dX12_person_118
          · skip
            replace hT := hT.trans (if_neg (fun q => q c15))
            refine pm_iconst (v := (-1)) hC dX12_person_40 ?_
            exact pm_iret hC hR pm_nar0 ⟨(-1), rfl, ⟨by omega, by omega⟩, hV0, (pm_fs.rf (cs := [100]) (fs := [23]) (V := V0)), hT⟩ dX12_person_41
set_option maxHeartbeats 4000000 in
set_option maxRecDepth 100000 in
theorem fB_X12_isPerson (a1 : Int) (h0 : (-2147483648) ≤ a1 ∧ a1 ≤ 2147483647) : pm_K 2 yX12_isPerson cX12_isPerson 2 (some .boolean) (fun av V => av = [(3, 90), (0, a1)] ∧ pm_oq pm_qB V) (fun _ V r V' => ∃ y, r = some (0, y) ∧ (0 ≤ y ∧ y ≤ 1 ∧ (y = 1 → (0 ≤ a1 ∧ a1 ≤ 9))) ∧ V = V' ∧ F_X12_isPerson a1 V = (y, V)) := by
  refine pm_MT.of (by decide) ⟨Nat.le_refl _, by decide⟩ (fun av V h => by rw [h.1]; exact (by decide : pm_words [(3, 0), (0, 0)] ≤ 2)) ?_
  rintro X av V0 hC - hR ⟨rfl, hV0⟩
  change pm_J X 0 [(0, (3, 90)), (1, (0, a1))] [] 118 V0
  have hT := F_X12_isPerson_eq a1 V0
  refine pm_aload_n hC 0 (by decide) dX12_isPerson_0 rfl ?_
  have e1 : V0 90 15 = 1 := hV0.one 90 15 (by decide) (by decide) rfl
  refine pm_getf (v := 1) hC 90 fl_X12_216 rfl rfl (by decide) rfl e1 dX12_isPerson_1 ?_
  refine pm_if_eq (tgt := 25) hC ⟨by decide, by decide⟩ dX12_isPerson_4 (by decide) (fun c2 => ?_) (fun c2 => ?_)
  · skip
    exfalso; omega
  · skip
    refine pm_iload_n hC 1 dX12_isPerson_7 rfl ?_
    refine pm_iconst (v := 0) hC dX12_isPerson_8 ?_
    refine pm_aload_n hC 0 (by decide) dX12_isPerson_9 rfl ?_
    obtain ⟨y3, e4⟩ : ∃ y, V0 90 23 = y := ⟨_, rfl⟩
    have b5 := hV0.get 90 23 (lo := 0) (hi := 10) (by decide) (by decide) rfl
    rw [e4] at b5
    replace hT := hT.trans (pf_let_eq e4)
    refine pm_getf (v := y3) hC 90 fl_X12_232 rfl rfl (by decide) rfl e4 dX12_isPerson_10 ?_
    refine pm_iconst (v := 1) hC dX12_isPerson_13 ?_
    refine pm_isub hC dX12_isPerson_14 ?_
    refine pm_callS (as := [(0, a1), (0, 0), (0, (y3 - 1))]) (st := []) hC (fB_X12_in a1 0 (y3 - 1) ⟨by omega, by omega⟩ ⟨by decide, by decide⟩ ⟨by omega, by omega⟩) lm_X12_98 ls_X12_in (by decide) (by decide) rfl rfl (Nat.le_of_ble_eq_true rfl) ⟨Nat.le_refl _, Or.inl rfl⟩ dX12_isPerson_15 ⟨rfl, hV0⟩ (fun r6 V7 hp8 => ?_)
    obtain ⟨y9, rfl, b10, rfl, hE11⟩ := hp8
    replace hT := hT.trans (pf_call_eq hE11)
    change pm_J X 18 [(0, (3, 90)), (1, (0, a1))] [(0, y9)] 118 V0
    refine pm_if_eq (tgt := 25) hC ⟨by omega, by omega⟩ dX12_isPerson_18 (by decide) (fun c12 => ?_) (fun c12 => ?_)
    · skip
      replace hT := hT.trans (if_pos c12)
      refine pm_iconst (v := 0) hC dX12_isPerson_25 ?_
      exact pm_iret hC hR (pm_narZ (by omega)) ⟨0, rfl, ⟨by omega, by omega, by omega⟩, rfl, hT⟩ dX12_isPerson_26
    · skip
      replace hT := hT.trans (if_neg c12)
      refine pm_iconst (v := 1) hC dX12_isPerson_21 ?_
      refine pm_goto (tgt := 26) hC dX12_isPerson_22 (by decide) ?_
      exact pm_iret hC hR (pm_narZ (by omega)) ⟨1, rfl, ⟨by omega, by omega, by omega⟩, rfl, hT⟩ dX12_isPerson_26
set_option maxHeartbeats 4000000 in
set_option maxRecDepth 100000 in
theorem fB_X12_who (a1 a2 : Int) (h0 : (-2147483648) ≤ a1 ∧ a1 ≤ 2147483647) (h1 : (-2147483648) ≤ a2 ∧ a2 ≤ 2147483647) : pm_K 3 yX12_who cX12_who 3 (some .int) (fun av V => av = [(3, 90), (0, a1), (0, a2)] ∧ pm_oq pm_qB V) (fun _ V r V' => ∃ y, r = some (0, y) ∧ ((-2147483648) ≤ y ∧ y ≤ 30) ∧ V = V' ∧ F_X12_who a1 a2 V = (y, V)) := by
  refine pm_MT.of (by decide) ⟨Nat.le_refl _, by decide⟩ (fun av V h => by rw [h.1]; exact (by decide : pm_words [(3, 0), (0, 0), (0, 0)] ≤ 3)) ?_
  rintro X av V0 hC - hR ⟨rfl, hV0⟩
  change pm_J X 0 [(0, (3, 90)), (1, (0, a1)), (2, (0, a2))] [] 118 V0
  have hT := F_X12_who_eq a1 a2 V0
  refine pm_aload_n hC 0 (by decide) dX12_who_0 rfl ?_
  refine pm_iload_n hC 1 dX12_who_1 rfl ?_
  refine pm_callV (ci := 12) (as := [(0, a1)]) (st := []) hC 90 (fB_X12_isPerson a1 ⟨by omega, by omega⟩) lm_X12_302 li_X12_isPerson (by decide) (by decide) rfl rfl rfl (by decide) rfl rfl (Nat.le_of_ble_eq_true rfl) ⟨Nat.le_refl _, Or.inl rfl⟩ dX12_who_2 ⟨rfl, hV0⟩ (fun r1 V2 hp3 => ?_)
  obtain ⟨y4, rfl, b5, rfl, hE6⟩ := hp3
  replace hT := hT.trans (pf_call_eq hE6)
  change pm_J X 5 [(0, (3, 90)), (1, (0, a1)), (2, (0, a2))] [(0, y4)] 118 V0
  refine pm_if_eq (tgt := 30) hC ⟨by omega, by omega⟩ dX12_who_5 (by decide) (fun c7 => ?_) (fun c7 => ?_)
  · skip
    replace hT := hT.trans (if_pos c7)
    refine pm_ldcw (v := (-2147483648)) hC 7000 dX12_who_30 (by decide +kernel) ?_
    exact pm_iret hC hR pm_nar0 ⟨(-2147483648), rfl, ⟨by omega, by omega⟩, rfl, hT⟩ dX12_who_33
  · skip
    replace hT := hT.trans (if_neg c7)
    refine pm_iload_n hC 2 dX12_who_8 rfl ?_
    refine pm_iconst (v := 0) hC dX12_who_9 ?_
    refine pm_iconst (v := 3) hC dX12_who_10 ?_
    refine pm_callS (as := [(0, a2), (0, 0), (0, 3)]) (st := []) hC (fB_X12_in a2 0 3 ⟨by omega, by omega⟩ ⟨by decide, by decide⟩ ⟨by decide, by decide⟩) lm_X12_98 ls_X12_in (by decide) (by decide) rfl rfl (Nat.le_of_ble_eq_true rfl) ⟨Nat.le_refl _, Or.inl rfl⟩ dX12_who_11 ⟨rfl, hV0⟩ (fun r8 V9 hp10 => ?_)
    obtain ⟨y11, rfl, b12, rfl, hE13⟩ := hp10
    replace hT := hT.trans (pf_call_eq hE13)
    change pm_J X 14 [(0, (3, 90)), (1, (0, a1)), (2, (0, a2))] [(0, y11)] 118 V0
    refine pm_if_eq (tgt := 30) hC ⟨by omega, by omega⟩ dX12_who_14 (by decide) (fun c14 => ?_) (fun c14 => ?_)
    · skip
      replace hT := hT.trans (if_pos c14)
      refine pm_ldcw (v := (-2147483648)) hC 7000 dX12_who_30 (by decide +kernel) ?_
      exact pm_iret hC hR pm_nar0 ⟨(-2147483648), rfl, ⟨by omega, by omega⟩, rfl, hT⟩ dX12_who_33
    · skip
      replace hT := hT.trans (if_neg c14)
      refine pm_aload_n hC 0 (by decide) dX12_who_17 rfl ?_
      have e15 : V0 90 24 = 100 := hV0.one 90 24 (by decide) (by decide) rfl
      refine pm_getf (v := 100) hC 90 fl_X12_40 rfl rfl (by decide) rfl e15 dX12_who_18 ?_
      refine pm_iconst (v := 4) hC dX12_who_21 ?_
      refine pm_iload_n hC 1 dX12_who_22 rfl ?_
      refine pm_imul hC dX12_who_23 ?_
      refine pm_iload_n hC 2 dX12_who_24 rfl ?_
      refine pm_iadd hC dX12_who_25 ?_
      obtain ⟨y16, e17⟩ : ∃ y, V0 100 (((4 * a1) + a2) : Int).toNat = y := ⟨_, rfl⟩
      replace hT := hT.trans (pf_let_eq e17)
      have be19 := hV0 100 (by decide) (by decide) (((4 * a1) + a2) : Int).toNat (show _ < 40 by omega)
      rw [e17] at be19
      have b18 : (-30) ≤ y16 ∧ y16 ≤ 30 := pm_qhull be19 rfl rfl (by decide)
      refine pm_iaload (len := 40) (v := y16) hC 100 rfl rfl (by decide) ⟨by omega, by omega⟩ (by decide) e17 dX12_who_26 ?_
      refine pm_goto (tgt := 33) hC dX12_who_27 (by decide) ?_
      exact pm_iret hC hR pm_nar0 ⟨y16, rfl, ⟨by omega, by omega⟩, rfl, hT⟩ dX12_who_33
set_option maxHeartbeats 4000000 in
set_option maxRecDepth 100000 in
theorem fB_X12_becomes (a1 a2 a3 a4 : Int) (h0 : (-2147483648) ≤ a1 ∧ a1 ≤ 2147483647) (h1 : (-2147483648) ≤ a2 ∧ a2 ≤ 2147483647) (h2 : (-2147483648) ≤ a3 ∧ a3 ≤ 2147483647) (h3 : (-2147483648) ≤ a4 ∧ a4 ≤ 2147483647) : pm_K 3 yX12_becomes cX12_becomes 5 (some .boolean) (fun av V => av = [(3, 90), (0, a1), (0, a2), (0, a3), (0, a4)] ∧ pm_oq pm_qB V) (fun _ V r V' => ∃ y, r = some (0, y) ∧ (0 ≤ y ∧ y ≤ 1) ∧ pm_oq pm_qB V' ∧ pm_fs [100] [] V V' ∧ F_X12_becomes a1 a2 a3 a4 V = (y, V')) := by
  refine pm_MT.of (by decide) ⟨Nat.le_refl _, by decide⟩ (fun av V h => by rw [h.1]; exact (by decide : pm_words [(3, 0), (0, 0), (0, 0), (0, 0), (0, 0)] ≤ 5)) ?_
  rintro X av V0 hC - hR ⟨rfl, hV0⟩
  change pm_J X 0 [(0, (3, 90)), (1, (0, a1)), (2, (0, a2)), (3, (0, a3)), (4, (0, a4))] [] 118 V0
  have hT := F_X12_becomes_eq a1 a2 a3 a4 V0
  refine pm_aload_n hC 0 (by decide) dX12_becomes_0 rfl ?_
  refine pm_iload_n hC 1 dX12_becomes_1 rfl ?_
  refine pm_callV (ci := 12) (as := [(0, a1)]) (st := []) hC 90 (fB_X12_isPerson a1 ⟨by omega, by omega⟩) lm_X12_302 li_X12_isPerson (by decide) (by decide) rfl rfl rfl (by decide) rfl rfl (Nat.le_of_ble_eq_true rfl) ⟨Nat.le_refl _, Or.inl rfl⟩ dX12_becomes_2 ⟨rfl, hV0⟩ (fun r1 V2 hp3 => ?_)
  obtain ⟨y4, rfl, b5, rfl, hE6⟩ := hp3
  replace hT := hT.trans (pf_call_eq hE6)
  change pm_J X 5 [(0, (3, 90)), (1, (0, a1)), (2, (0, a2)), (3, (0, a3)), (4, (0, a4))] [(0, y4)] 118 V0
  refine pm_if_eq (tgt := 18) hC ⟨by omega, by omega⟩ dX12_becomes_5 (by decide) (fun c7 => ?_) (fun c7 => ?_)
  · skip
    replace hT := hT.trans (if_pos c7)
    refine pm_iconst (v := 0) hC dX12_becomes_18 ?_
    exact pm_iret hC hR (pm_narZ (by omega)) ⟨0, rfl, ⟨by omega, by omega⟩, hV0, (pm_fs.rf (cs := [100]) (fs := []) (V := V0)), hT⟩ dX12_becomes_19
  · skip
    replace hT := hT.trans (if_neg c7)
    refine pm_iload_n hC 2 dX12_becomes_8 rfl ?_
    refine pm_iload_n hC 3 dX12_becomes_9 rfl ?_
    refine pm_iload hC 4 dX12_becomes_10 rfl ?_
    refine pm_callS (as := [(0, a2), (0, a3), (0, a4)]) (st := []) hC (fB_X12_areChanges a2 a3 a4 ⟨by omega, by omega⟩ ⟨by omega, by omega⟩ ⟨by omega, by omega⟩) lm_X12_299 ls_X12_areChanges (by decide) (by decide) rfl rfl (Nat.le_of_ble_eq_true rfl) ⟨Nat.le_refl _, Or.inl rfl⟩ dX12_becomes_12 ⟨rfl, hV0⟩ (fun r8 V9 hp10 => ?_)
    obtain ⟨y11, rfl, b12, rfl, hE13⟩ := hp10
    replace hT := hT.trans (pf_call_eq hE13)
    change pm_J X 15 [(0, (3, 90)), (1, (0, a1)), (2, (0, a2)), (3, (0, a3)), (4, (0, a4))] [(0, y11)] 118 V0
    refine pm_if_ne (tgt := 20) hC ⟨by omega, by omega⟩ dX12_becomes_15 (by decide) (fun c14 => ?_) (fun c14 => ?_)
    · skip
      replace hT := hT.trans (if_pos c14)
      refine pm_aload_n hC 0 (by decide) dX12_becomes_20 rfl ?_
      have e15 : V0 90 24 = 100 := hV0.one 90 24 (by decide) (by decide) rfl
      refine pm_getf (v := 100) hC 90 fl_X12_40 rfl rfl (by decide) rfl e15 dX12_becomes_21 ?_
      refine pm_iconst (v := 4) hC dX12_becomes_24 ?_
      refine pm_iload_n hC 1 dX12_becomes_25 rfl ?_
      refine pm_imul hC dX12_becomes_26 ?_
      refine pm_iload_n hC 2 dX12_becomes_27 rfl ?_
      refine pm_iastore (len := 40) hC 100 rfl rfl (by decide) ⟨by omega, by omega⟩ (by decide) dX12_becomes_28 ?_
      refine pm_aload_n hC 0 (by decide) dX12_becomes_29 rfl ?_
      refine pm_getf (v := 100) hC 90 fl_X12_40 rfl rfl (by decide) rfl e15 dX12_becomes_30 ?_
      refine pm_iconst (v := 4) hC dX12_becomes_33 ?_
      refine pm_iload_n hC 1 dX12_becomes_34 rfl ?_
      refine pm_imul hC dX12_becomes_35 ?_
      refine pm_iconst (v := 1) hC dX12_becomes_36 ?_
      refine pm_iadd hC dX12_becomes_37 ?_
      refine pm_iload_n hC 3 dX12_becomes_38 rfl ?_
      refine pm_iastore (len := 40) hC 100 rfl rfl (by decide) ⟨by omega, by omega⟩ (by decide) dX12_becomes_39 ?_
      refine pm_aload_n hC 0 (by decide) dX12_becomes_40 rfl ?_
      refine pm_getf (v := 100) hC 90 fl_X12_40 rfl rfl (by decide) rfl e15 dX12_becomes_41 ?_
      refine pm_iconst (v := 4) hC dX12_becomes_44 ?_
      refine pm_iload_n hC 1 dX12_becomes_45 rfl ?_
      refine pm_imul hC dX12_becomes_46 ?_
      refine pm_iconst (v := 2) hC dX12_becomes_47 ?_
      refine pm_iadd hC dX12_becomes_48 ?_
      refine pm_iload hC 4 dX12_becomes_49 rfl ?_
      refine pm_iastore (len := 40) hC 100 rfl rfl (by decide) ⟨by omega, by omega⟩ (by decide) dX12_becomes_51 ?_
      refine pm_iconst (v := 1) hC dX12_becomes_52 ?_
      exact pm_iret hC hR (pm_narZ (by omega)) ⟨1, rfl, ⟨by omega, by omega⟩, (((hV0.put 100 ((4 * a1) : Int).toNat (x := a2) (lo := (-30)) (hi := 30) ((pm_qe_r (tb := pm_qB) (k := 100) (i := ((4 * a1) : Int).toNat) (m := 4) (r := 0) (l := [(-30, 30, 0), (-30, 30, 0), (0, 16, 0), (0, 3, 0)]) rfl rfl (by omega)).trans rfl) ⟨by omega, by omega⟩).put 100 (((4 * a1) + 1) : Int).toNat (x := a3) (lo := (-30)) (hi := 30) ((pm_qe_r (tb := pm_qB) (k := 100) (i := (((4 * a1) + 1) : Int).toNat) (m := 4) (r := 1) (l := [(-30, 30, 0), (-30, 30, 0), (0, 16, 0), (0, 3, 0)]) rfl rfl (by omega)).trans rfl) ⟨by omega, by omega⟩).put 100 (((4 * a1) + 2) : Int).toNat (x := a4) (lo := 0) (hi := 16) ((pm_qe_r (tb := pm_qB) (k := 100) (i := (((4 * a1) + 2) : Int).toNat) (m := 4) (r := 2) (l := [(-30, 30, 0), (-30, 30, 0), (0, 16, 0), (0, 3, 0)]) rfl rfl (by omega)).trans rfl) ⟨by omega, by omega⟩), ((((pm_fs.rf (cs := [100]) (fs := []) (V := V0)).up 100 ((4 * a1) : Int).toNat a2 (by decide) rfl).up 100 (((4 * a1) + 1) : Int).toNat a3 (by decide) rfl).up 100 (((4 * a1) + 2) : Int).toNat a4 (by decide) rfl), hT⟩ dX12_becomes_53
    · skip
      replace hT := hT.trans (if_neg (fun q => q c14))
      refine pm_iconst (v := 0) hC dX12_becomes_18 ?_
      exact pm_iret hC hR (pm_narZ (by omega)) ⟨0, rfl, ⟨by omega, by omega⟩, hV0, (pm_fs.rf (cs := [100]) (fs := []) (V := V0)), hT⟩ dX12_becomes_19
set_option maxHeartbeats 4000000 in
set_option maxRecDepth 100000 in
theorem fB_X12_isTrial (a1 a2 a3 : Int) (h0 : (-2147483648) ≤ a1 ∧ a1 ≤ 2147483647) (h1 : (-2147483648) ≤ a2 ∧ a2 ≤ 2147483647) (h2 : (-2147483648) ≤ a3 ∧ a3 ≤ 2147483647) : pm_K 2 yX12_isTrial cX12_isTrial 4 (some .boolean) (fun av V => av = [(3, 90), (0, a1), (0, a2), (0, a3)] ∧ pm_oq pm_qB V) (fun _ V r V' => ∃ y, r = some (0, y) ∧ (0 ≤ y ∧ y ≤ 1 ∧ (y = 1 → (0 ≤ a1 ∧ a1 ≤ 999 ∧ 0 ≤ a2 ∧ a2 ≤ 99 ∧ (-99) ≤ a3 ∧ a3 ≤ 99 ∧ a1 % 10 ≤ 8 ∧ a1 / 10 % 10 ≤ 8 ∧ a1 % 10 < V 90 16 ∧ a1 / 10 % 10 < V 90 16))) ∧ V = V' ∧ F_X12_isTrial a1 a2 a3 V = (y, V)) := by
  refine pm_MT.of (by decide) ⟨Nat.le_refl _, by decide⟩ (fun av V h => by rw [h.1]; exact (by decide : pm_words [(3, 0), (0, 0), (0, 0), (0, 0)] ≤ 4)) ?_
  rintro X av V0 hC - hR ⟨rfl, hV0⟩
  change pm_J X 0 [(0, (3, 90)), (1, (0, a1)), (2, (0, a2)), (3, (0, a3))] [] 118 V0
  have hT := F_X12_isTrial_eq a1 a2 a3 V0
  refine pm_aload_n hC 0 (by decide) dX12_isTrial_0 rfl ?_
  have e1 : V0 90 15 = 1 := hV0.one 90 15 (by decide) (by decide) rfl
  refine pm_getf (v := 1) hC 90 fl_X12_216 rfl rfl (by decide) rfl e1 dX12_isTrial_1 ?_
  refine pm_if_eq (tgt := 72) hC ⟨by decide, by decide⟩ dX12_isTrial_4 (by decide) (fun c2 => ?_) (fun c2 => ?_)
  · skip
    exfalso; omega
  · skip
    refine pm_iload_n hC 1 dX12_isTrial_7 rfl ?_
    refine pm_if_lt (tgt := 72) hC ⟨by omega, by omega⟩ dX12_isTrial_8 (by decide) (fun c3 => ?_) (fun c3 => ?_)
    · skip
      replace hT := hT.trans (if_pos c3)
      refine pm_iconst (v := 0) hC dX12_isTrial_72 ?_
      exact pm_iret hC hR (pm_narZ (by omega)) ⟨0, rfl, ⟨by omega, by omega, by omega⟩, rfl, hT⟩ dX12_isTrial_73
    · skip
      replace hT := hT.trans (if_neg (Int.not_lt.mpr c3))
      refine pm_iload_n hC 1 dX12_isTrial_11 rfl ?_
      refine pm_bipush (v := 100) hC dX12_isTrial_12 (by decide) ?_
      refine pm_idiv hC ⟨by omega, by omega, by omega⟩ ⟨by decide, by decide, by decide⟩ dX12_isTrial_14 ?_
      refine pm_aload_n hC 0 (by decide) dX12_isTrial_15 rfl ?_
      obtain ⟨y4, e5⟩ : ∃ y, V0 90 23 = y := ⟨_, rfl⟩
      have b6 := hV0.get 90 23 (lo := 0) (hi := 10) (by decide) (by decide) rfl
      rw [e5] at b6
      replace hT := hT.trans (pf_let_eq e5)
      refine pm_getf (v := y4) hC 90 fl_X12_232 rfl rfl (by decide) rfl e5 dX12_isTrial_16 ?_
      refine pm_icmp_ge (tgt := 72) hC ⟨by omega, by omega⟩ ⟨by omega, by omega⟩ dX12_isTrial_19 (by decide) (fun c7 => ?_) (fun c7 => ?_)
      · skip
        replace hT := hT.trans (if_pos c7)
        refine pm_iconst (v := 0) hC dX12_isTrial_72 ?_
        exact pm_iret hC hR (pm_narZ (by omega)) ⟨0, rfl, ⟨by omega, by omega, by omega⟩, rfl, hT⟩ dX12_isTrial_73
      · skip
        replace hT := hT.trans (if_neg (Int.not_le.mpr c7))
        refine pm_iload_n hC 1 dX12_isTrial_22 rfl ?_
        refine pm_bipush (v := 10) hC dX12_isTrial_23 (by decide) ?_
        refine pm_idiv hC ⟨by omega, by omega, by omega⟩ ⟨by decide, by decide, by decide⟩ dX12_isTrial_25 ?_
        refine pm_bipush (v := 10) hC dX12_isTrial_26 (by decide) ?_
        refine pm_irem hC ⟨by omega, by omega, by omega⟩ ⟨by decide, by decide, by decide⟩ dX12_isTrial_28 ?_
        refine pm_aload_n hC 0 (by decide) dX12_isTrial_29 rfl ?_
        obtain ⟨y8, e9⟩ : ∃ y, V0 90 16 = y := ⟨_, rfl⟩
        have b10 := hV0.get 90 16 (lo := 2) (hi := 9) (by decide) (by decide) rfl
        rw [e9] at b10
        replace hT := hT.trans (pf_let_eq e9)
        refine pm_getf (v := y8) hC 90 fl_X12_220 rfl rfl (by decide) rfl e9 dX12_isTrial_30 ?_
        refine pm_icmp_ge (tgt := 72) hC ⟨by omega, by omega⟩ ⟨by omega, by omega⟩ dX12_isTrial_33 (by decide) (fun c11 => ?_) (fun c11 => ?_)
        · skip
          replace hT := hT.trans (if_pos c11)
          refine pm_iconst (v := 0) hC dX12_isTrial_72 ?_
          exact pm_iret hC hR (pm_narZ (by omega)) ⟨0, rfl, ⟨by omega, by omega, by omega⟩, rfl, hT⟩ dX12_isTrial_73
        · skip
          replace hT := hT.trans (if_neg (Int.not_le.mpr c11))
          refine pm_iload_n hC 1 dX12_isTrial_36 rfl ?_
          refine pm_bipush (v := 10) hC dX12_isTrial_37 (by decide) ?_
          refine pm_irem hC ⟨by omega, by omega, by omega⟩ ⟨by decide, by decide, by decide⟩ dX12_isTrial_39 ?_
          refine pm_aload_n hC 0 (by decide) dX12_isTrial_40 rfl ?_
          refine pm_getf (v := y8) hC 90 fl_X12_220 rfl rfl (by decide) rfl e9 dX12_isTrial_41 ?_
          refine pm_icmp_ge (tgt := 72) hC ⟨by omega, by omega⟩ ⟨by omega, by omega⟩ dX12_isTrial_44 (by decide) (fun c12 => ?_) (fun c12 => ?_)
          · skip
            replace hT := hT.trans (if_pos c12)
            refine pm_iconst (v := 0) hC dX12_isTrial_72 ?_
            exact pm_iret hC hR (pm_narZ (by omega)) ⟨0, rfl, ⟨by omega, by omega, by omega⟩, rfl, hT⟩ dX12_isTrial_73
          · skip
            replace hT := hT.trans (if_neg (Int.not_le.mpr c12))
            refine pm_iload_n hC 2 dX12_isTrial_47 rfl ?_
            refine pm_iconst (v := 0) hC dX12_isTrial_48 ?_
            refine pm_bipush (v := 99) hC dX12_isTrial_49 (by decide) ?_
            refine pm_callS (as := [(0, a2), (0, 0), (0, 99)]) (st := []) hC (fB_X12_in a2 0 99 ⟨by omega, by omega⟩ ⟨by decide, by decide⟩ ⟨by decide, by decide⟩) lm_X12_98 ls_X12_in (by decide) (by decide) rfl rfl (Nat.le_of_ble_eq_true rfl) ⟨Nat.le_refl _, Or.inl rfl⟩ dX12_isTrial_51 ⟨rfl, hV0⟩ (fun r13 V14 hp15 => ?_)
            obtain ⟨y16, rfl, b17, rfl, hE18⟩ := hp15
            replace hT := hT.trans (pf_call_eq hE18)
            change pm_J X 54 [(0, (3, 90)), (1, (0, a1)), (2, (0, a2)), (3, (0, a3))] [(0, y16)] 118 V0
            refine pm_if_eq (tgt := 72) hC ⟨by omega, by omega⟩ dX12_isTrial_54 (by decide) (fun c19 => ?_) (fun c19 => ?_)
            · skip
              replace hT := hT.trans (if_pos c19)
              refine pm_iconst (v := 0) hC dX12_isTrial_72 ?_
              exact pm_iret hC hR (pm_narZ (by omega)) ⟨0, rfl, ⟨by omega, by omega, by omega⟩, rfl, hT⟩ dX12_isTrial_73
            · skip
              replace hT := hT.trans (if_neg c19)
              refine pm_iload_n hC 3 dX12_isTrial_57 rfl ?_
              refine pm_bipush (v := (-99)) hC dX12_isTrial_58 (by decide) ?_
              refine pm_bipush (v := 99) hC dX12_isTrial_60 (by decide) ?_
              refine pm_callS (as := [(0, a3), (0, (-99)), (0, 99)]) (st := []) hC (fB_X12_in a3 (-99) 99 ⟨by omega, by omega⟩ ⟨by decide, by decide⟩ ⟨by decide, by decide⟩) lm_X12_98 ls_X12_in (by decide) (by decide) rfl rfl (Nat.le_of_ble_eq_true rfl) ⟨Nat.le_refl _, Or.inl rfl⟩ dX12_isTrial_62 ⟨rfl, hV0⟩ (fun r20 V21 hp22 => ?_)
              obtain ⟨y23, rfl, b24, rfl, hE25⟩ := hp22
              replace hT := hT.trans (pf_call_eq hE25)
              change pm_J X 65 [(0, (3, 90)), (1, (0, a1)), (2, (0, a2)), (3, (0, a3))] [(0, y23)] 118 V0
              refine pm_if_eq (tgt := 72) hC ⟨by omega, by omega⟩ dX12_isTrial_65 (by decide) (fun c26 => ?_) (fun c26 => ?_)
              · skip
                replace hT := hT.trans (if_pos c26)
                refine pm_iconst (v := 0) hC dX12_isTrial_72 ?_
                exact pm_iret hC hR (pm_narZ (by omega)) ⟨0, rfl, ⟨by omega, by omega, by omega⟩, rfl, hT⟩ dX12_isTrial_73
              · skip
                replace hT := hT.trans (if_neg c26)
                refine pm_iconst (v := 1) hC dX12_isTrial_68 ?_
                refine pm_goto (tgt := 73) hC dX12_isTrial_69 (by decide) ?_
                exact pm_iret hC hR (pm_narZ (by omega)) ⟨1, rfl, ⟨by omega, by omega, by omega⟩, rfl, hT⟩ dX12_isTrial_73
set_option maxHeartbeats 4000000 in
set_option maxRecDepth 100000 in
theorem fB_X12_isLaw (a1 : Int) (h0 : (-2147483648) ≤ a1 ∧ a1 ≤ 2147483647) : pm_K 2 yX12_isLaw cX12_isLaw 1 (some .boolean) (fun av V => av = [(0, a1)] ∧ pm_oq pm_qB V) (fun _ V r V' => ∃ y, r = some (0, y) ∧ (0 ≤ y ∧ y ≤ 1 ∧ (y = 1 → (0 ≤ a1 ∧ a1 ≤ 6))) ∧ V = V' ∧ F_X12_isLaw a1 V = (y, V)) := by
  refine pm_MT.of (by decide) ⟨Nat.le_refl _, by decide⟩ (fun av V h => by rw [h.1]; exact (by decide : pm_words [(0, 0)] ≤ 1)) ?_
  rintro X av V0 hC - hR ⟨rfl, hV0⟩
  change pm_J X 0 [(0, (0, a1))] [] 118 V0
  have hT := F_X12_isLaw_eq a1 V0
  refine pm_iload_n hC 0 dX12_isLaw_0 rfl ?_
  refine pm_iconst (v := 0) hC dX12_isLaw_1 ?_
  refine pm_bipush (v := 6) hC dX12_isLaw_2 (by decide) ?_
  refine pm_callS (as := [(0, a1), (0, 0), (0, 6)]) (st := []) hC (fB_X12_in a1 0 6 ⟨by omega, by omega⟩ ⟨by decide, by decide⟩ ⟨by decide, by decide⟩) lm_X12_98 ls_X12_in (by decide) (by decide) rfl rfl (Nat.le_of_ble_eq_true rfl) ⟨Nat.le_refl _, Or.inl rfl⟩ dX12_isLaw_4 ⟨rfl, hV0⟩ (fun r1 V2 hp3 => ?_)
  obtain ⟨y4, rfl, b5, rfl, hE6⟩ := hp3
  replace hT := hT.trans (pf_call_eq hE6)
  change pm_J X 7 [(0, (0, a1))] [(0, y4)] 118 V0
  exact pm_iret hC hR (pm_narZ (by omega)) ⟨y4, rfl, ⟨by omega, by omega, by omega⟩, rfl, hT⟩ dX12_isLaw_7
set_option maxHeartbeats 4000000 in
set_option maxRecDepth 100000 in
theorem fB_X12_x (a1 : Int) (h0 : 0 ≤ a1 ∧ a1 ≤ 8) : pm_K 1 yX12_x cX12_x 2 (some .int) (fun av V => av = [(3, 90), (0, a1)] ∧ pm_oq pm_qB V) (fun _ V r V' => ∃ y, r = some (0, y) ∧ (0 ≤ y ∧ y ≤ 99 ∧ (y = V 97 (3 * a1).toNat)) ∧ V = V' ∧ F_X12_x a1 V = (y, V)) := by
  refine pm_MT.of (by decide) ⟨Nat.le_refl _, by decide⟩ (fun av V h => by rw [h.1]; exact (by decide : pm_words [(3, 0), (0, 0)] ≤ 2)) ?_
  rintro X av V0 hC - hR ⟨rfl, hV0⟩
  change pm_J X 0 [(0, (3, 90)), (1, (0, a1))] [] 118 V0
  have hT := F_X12_x_eq a1 V0
  refine pm_aload_n hC 0 (by decide) dX12_x_0 rfl ?_
  have e1 : V0 90 17 = 97 := hV0.one 90 17 (by decide) (by decide) rfl
  refine pm_getf (v := 97) hC 90 fl_X12_31 rfl rfl (by decide) rfl e1 dX12_x_1 ?_
  refine pm_iconst (v := 3) hC dX12_x_4 ?_
  refine pm_iload_n hC 1 dX12_x_5 rfl ?_
  refine pm_imul hC dX12_x_6 ?_
  obtain ⟨y2, e3⟩ : ∃ y, V0 97 ((3 * a1) : Int).toNat = y := ⟨_, rfl⟩
  replace hT := hT.trans (pf_let_eq e3)
  have b4 := hV0.get 97 ((3 * a1) : Int).toNat (lo := 0) (hi := 99) (t := 0) (by decide) (show _ < 27 by omega) ((pm_qe_r (tb := pm_qB) (k := 97) (i := ((3 * a1) : Int).toNat) (m := 3) (r := 0) (l := [(0, 99, 0), (0, 99, 0), (0, 9, 0)]) rfl rfl (by omega)).trans rfl)
  rw [e3] at b4
  refine pm_iaload (len := 27) (v := y2) hC 97 rfl rfl (by decide) ⟨by omega, by omega⟩ (by decide) e3 dX12_x_7 ?_
  exact pm_iret hC hR pm_nar0 ⟨y2, rfl, ⟨by omega, by omega, by omega⟩, rfl, hT⟩ dX12_x_8
set_option maxHeartbeats 4000000 in
set_option maxRecDepth 100000 in
theorem fB_X12_y (a1 : Int) (h0 : 0 ≤ a1 ∧ a1 ≤ 8) : pm_K 1 yX12_y cX12_y 2 (some .int) (fun av V => av = [(3, 90), (0, a1)] ∧ pm_oq pm_qB V) (fun _ V r V' => ∃ y, r = some (0, y) ∧ (0 ≤ y ∧ y ≤ 99 ∧ (y = V 97 (3 * a1 + 1).toNat)) ∧ V = V' ∧ F_X12_y a1 V = (y, V)) := by
  refine pm_MT.of (by decide) ⟨Nat.le_refl _, by decide⟩ (fun av V h => by rw [h.1]; exact (by decide : pm_words [(3, 0), (0, 0)] ≤ 2)) ?_
  rintro X av V0 hC - hR ⟨rfl, hV0⟩
  change pm_J X 0 [(0, (3, 90)), (1, (0, a1))] [] 118 V0
  have hT := F_X12_y_eq a1 V0
  refine pm_aload_n hC 0 (by decide) dX12_y_0 rfl ?_
  have e1 : V0 90 17 = 97 := hV0.one 90 17 (by decide) (by decide) rfl
  refine pm_getf (v := 97) hC 90 fl_X12_31 rfl rfl (by decide) rfl e1 dX12_y_1 ?_
  refine pm_iconst (v := 3) hC dX12_y_4 ?_
  refine pm_iload_n hC 1 dX12_y_5 rfl ?_
  refine pm_imul hC dX12_y_6 ?_
  refine pm_iconst (v := 1) hC dX12_y_7 ?_
  refine pm_iadd hC dX12_y_8 ?_
  obtain ⟨y2, e3⟩ : ∃ y, V0 97 (((3 * a1) + 1) : Int).toNat = y := ⟨_, rfl⟩
  replace hT := hT.trans (pf_let_eq e3)
  have b4 := hV0.get 97 (((3 * a1) + 1) : Int).toNat (lo := 0) (hi := 99) (t := 0) (by decide) (show _ < 27 by omega) ((pm_qe_r (tb := pm_qB) (k := 97) (i := (((3 * a1) + 1) : Int).toNat) (m := 3) (r := 1) (l := [(0, 99, 0), (0, 99, 0), (0, 9, 0)]) rfl rfl (by omega)).trans rfl)
  rw [e3] at b4
  refine pm_iaload (len := 27) (v := y2) hC 97 rfl rfl (by decide) ⟨by omega, by omega⟩ (by decide) e3 dX12_y_9 ?_
  exact pm_iret hC hR pm_nar0 ⟨y2, rfl, ⟨by omega, by omega, by omega⟩, rfl, hT⟩ dX12_y_10
set_option maxHeartbeats 4000000 in
set_option maxRecDepth 100000 in
theorem fB_X12_canBe (a1 a2 a3 : Int) (h0 : (-2147483648) ≤ a1 ∧ a1 ≤ 2147483647) (h1 : (-2147483648) ≤ a2 ∧ a2 ≤ 2147483647) (h2 : (-2147483648) ≤ a3 ∧ a3 ≤ 2147483647) : pm_K 3 yX12_canBe cX12_canBe 4 (some .boolean) (fun av V => av = [(3, 90), (0, a1), (0, a2), (0, a3)] ∧ pm_oq pm_qB V) (fun _ V r V' => ∃ y, r = some (0, y) ∧ (0 ≤ y ∧ y ≤ 1 ∧ (y = 1 → (0 ≤ a1 ∧ a1 ≤ 6 ∧ 0 ≤ a2 ∧ a2 ≤ 9 ∧ 0 ≤ a3 ∧ a3 ≤ 99))) ∧ V = V' ∧ F_X12_canBe a1 a2 a3 V = (y, V)) := by
  refine pm_MT.of (by decide) ⟨Nat.le_refl _, by decide⟩ (fun av V h => by rw [h.1]; exact (by decide : pm_words [(3, 0), (0, 0), (0, 0), (0, 0)] ≤ 4)) ?_
  rintro X av V0 hC - hR ⟨rfl, hV0⟩
  change pm_J X 0 [(0, (3, 90)), (1, (0, a1)), (2, (0, a2)), (3, (0, a3))] [] 118 V0
  have hT := F_X12_canBe_eq a1 a2 a3 V0
  refine pm_iload_n hC 1 dX12_canBe_0 rfl ?_
  refine pm_callS (as := [(0, a1)]) (st := []) hC (fB_X12_isLaw a1 ⟨by omega, by omega⟩) lm_X12_370 ls_X12_isLaw (by decide) (by decide) rfl rfl (Nat.le_of_ble_eq_true rfl) ⟨Nat.le_refl _, Or.inl rfl⟩ dX12_canBe_1 ⟨rfl, hV0⟩ (fun r1 V2 hp3 => ?_)
  obtain ⟨y4, rfl, b5, rfl, hE6⟩ := hp3
  replace hT := hT.trans (pf_call_eq hE6)
  change pm_J X 4 [(0, (3, 90)), (1, (0, a1)), (2, (0, a2)), (3, (0, a3))] [(0, y4)] 118 V0
  refine pm_if_eq (tgt := 29) hC ⟨by omega, by omega⟩ dX12_canBe_4 (by decide) (fun c7 => ?_) (fun c7 => ?_)
  · skip
    replace hT := hT.trans (if_pos c7)
    refine pm_iconst (v := 0) hC dX12_canBe_29 ?_
    exact pm_iret hC hR (pm_narZ (by omega)) ⟨0, rfl, ⟨by omega, by omega, by omega⟩, rfl, hT⟩ dX12_canBe_30
  · skip
    replace hT := hT.trans (if_neg c7)
    refine pm_aload_n hC 0 (by decide) dX12_canBe_7 rfl ?_
    refine pm_iload_n hC 2 dX12_canBe_8 rfl ?_
    refine pm_callV (ci := 12) (as := [(0, a2)]) (st := []) hC 90 (fB_X12_isPerson a2 ⟨by omega, by omega⟩) lm_X12_302 li_X12_isPerson (by decide) (by decide) rfl rfl rfl (by decide) rfl rfl (Nat.le_of_ble_eq_true rfl) ⟨Nat.le_refl _, Or.inl rfl⟩ dX12_canBe_9 ⟨rfl, hV0⟩ (fun r8 V9 hp10 => ?_)
    obtain ⟨y11, rfl, b12, rfl, hE13⟩ := hp10
    replace hT := hT.trans (pf_call_eq hE13)
    change pm_J X 12 [(0, (3, 90)), (1, (0, a1)), (2, (0, a2)), (3, (0, a3))] [(0, y11)] 118 V0
    refine pm_if_eq (tgt := 29) hC ⟨by omega, by omega⟩ dX12_canBe_12 (by decide) (fun c14 => ?_) (fun c14 => ?_)
    · skip
      replace hT := hT.trans (if_pos c14)
      refine pm_iconst (v := 0) hC dX12_canBe_29 ?_
      exact pm_iret hC hR (pm_narZ (by omega)) ⟨0, rfl, ⟨by omega, by omega, by omega⟩, rfl, hT⟩ dX12_canBe_30
    · skip
      replace hT := hT.trans (if_neg c14)
      refine pm_iload_n hC 3 dX12_canBe_15 rfl ?_
      refine pm_iconst (v := 0) hC dX12_canBe_16 ?_
      refine pm_bipush (v := 99) hC dX12_canBe_17 (by decide) ?_
      refine pm_callS (as := [(0, a3), (0, 0), (0, 99)]) (st := []) hC (fB_X12_in a3 0 99 ⟨by omega, by omega⟩ ⟨by decide, by decide⟩ ⟨by decide, by decide⟩) lm_X12_98 ls_X12_in (by decide) (by decide) rfl rfl (Nat.le_of_ble_eq_true rfl) ⟨Nat.le_refl _, Or.inl rfl⟩ dX12_canBe_19 ⟨rfl, hV0⟩ (fun r15 V16 hp17 => ?_)
      obtain ⟨y18, rfl, b19, rfl, hE20⟩ := hp17
      replace hT := hT.trans (pf_call_eq hE20)
      change pm_J X 22 [(0, (3, 90)), (1, (0, a1)), (2, (0, a2)), (3, (0, a3))] [(0, y18)] 118 V0
      refine pm_if_eq (tgt := 29) hC ⟨by omega, by omega⟩ dX12_canBe_22 (by decide) (fun c21 => ?_) (fun c21 => ?_)
      · skip
        replace hT := hT.trans (if_pos c21)
        refine pm_iconst (v := 0) hC dX12_canBe_29 ?_
        exact pm_iret hC hR (pm_narZ (by omega)) ⟨0, rfl, ⟨by omega, by omega, by omega⟩, rfl, hT⟩ dX12_canBe_30
      · skip
        replace hT := hT.trans (if_neg c21)
        refine pm_iconst (v := 1) hC dX12_canBe_25 ?_
        refine pm_goto (tgt := 30) hC dX12_canBe_26 (by decide) ?_
        exact pm_iret hC hR (pm_narZ (by omega)) ⟨1, rfl, ⟨by omega, by omega, by omega⟩, rfl, hT⟩ dX12_canBe_30
set_option maxHeartbeats 4000000 in
set_option maxRecDepth 100000 in
theorem fB_X12_areLaws (a1 : Int) (h0 : (-2147483648) ≤ a1 ∧ a1 ≤ 2147483647) : pm_K 3 yX12_areLaws cX12_areLaws 1 (some .boolean) (fun av V => av = [(0, a1)] ∧ pm_oq pm_qB V) (fun _ V r V' => ∃ y, r = some (0, y) ∧ (0 ≤ y ∧ y ≤ 1 ∧ (y = 1 → (0 ≤ a1 ∧ a1 ≤ 69 ∧ a1 % 10 ≤ 6))) ∧ V = V' ∧ F_X12_areLaws a1 V = (y, V)) := by
  refine pm_MT.of (by decide) ⟨Nat.le_refl _, by decide⟩ (fun av V h => by rw [h.1]; exact (by decide : pm_words [(0, 0)] ≤ 1)) ?_
  rintro X av V0 hC - hR ⟨rfl, hV0⟩
  change pm_J X 0 [(0, (0, a1))] [] 118 V0
  have hT := F_X12_areLaws_eq a1 V0
  refine pm_iload_n hC 0 dX12_areLaws_0 rfl ?_
  refine pm_if_lt (tgt := 28) hC ⟨by omega, by omega⟩ dX12_areLaws_1 (by decide) (fun c1 => ?_) (fun c1 => ?_)
  · skip
    replace hT := hT.trans (if_pos c1)
    refine pm_iconst (v := 0) hC dX12_areLaws_28 ?_
    exact pm_iret hC hR (pm_narZ (by omega)) ⟨0, rfl, ⟨by omega, by omega, by omega⟩, rfl, hT⟩ dX12_areLaws_29
  · skip
    replace hT := hT.trans (if_neg (Int.not_lt.mpr c1))
    refine pm_iload_n hC 0 dX12_areLaws_4 rfl ?_
    refine pm_bipush (v := 10) hC dX12_areLaws_5 (by decide) ?_
    refine pm_idiv hC ⟨by omega, by omega, by omega⟩ ⟨by decide, by decide, by decide⟩ dX12_areLaws_7 ?_
    refine pm_callS (as := [(0, (a1 / 10))]) (st := []) hC (fB_X12_isLaw (a1 / 10) ⟨by omega, by omega⟩) lm_X12_370 ls_X12_isLaw (by decide) (by decide) rfl rfl (Nat.le_of_ble_eq_true rfl) ⟨Nat.le_refl _, Or.inl rfl⟩ dX12_areLaws_8 ⟨rfl, hV0⟩ (fun r2 V3 hp4 => ?_)
    obtain ⟨y5, rfl, b6, rfl, hE7⟩ := hp4
    replace hT := hT.trans (pf_call_eq hE7)
    change pm_J X 11 [(0, (0, a1))] [(0, y5)] 118 V0
    refine pm_if_eq (tgt := 28) hC ⟨by omega, by omega⟩ dX12_areLaws_11 (by decide) (fun c8 => ?_) (fun c8 => ?_)
    · skip
      replace hT := hT.trans (if_pos c8)
      refine pm_iconst (v := 0) hC dX12_areLaws_28 ?_
      exact pm_iret hC hR (pm_narZ (by omega)) ⟨0, rfl, ⟨by omega, by omega, by omega⟩, rfl, hT⟩ dX12_areLaws_29
    · skip
      replace hT := hT.trans (if_neg c8)
      refine pm_iload_n hC 0 dX12_areLaws_14 rfl ?_
      refine pm_bipush (v := 10) hC dX12_areLaws_15 (by decide) ?_
      refine pm_irem hC ⟨by omega, by omega, by omega⟩ ⟨by decide, by decide, by decide⟩ dX12_areLaws_17 ?_
      refine pm_callS (as := [(0, (a1 % 10))]) (st := []) hC (fB_X12_isLaw (a1 % 10) ⟨by omega, by omega⟩) lm_X12_370 ls_X12_isLaw (by decide) (by decide) rfl rfl (Nat.le_of_ble_eq_true rfl) ⟨Nat.le_refl _, Or.inl rfl⟩ dX12_areLaws_18 ⟨rfl, hV0⟩ (fun r9 V10 hp11 => ?_)
      obtain ⟨y12, rfl, b13, rfl, hE14⟩ := hp11
      replace hT := hT.trans (pf_call_eq hE14)
      change pm_J X 21 [(0, (0, a1))] [(0, y12)] 118 V0
      refine pm_if_eq (tgt := 28) hC ⟨by omega, by omega⟩ dX12_areLaws_21 (by decide) (fun c15 => ?_) (fun c15 => ?_)
      · skip
        replace hT := hT.trans (if_pos c15)
        refine pm_iconst (v := 0) hC dX12_areLaws_28 ?_
        exact pm_iret hC hR (pm_narZ (by omega)) ⟨0, rfl, ⟨by omega, by omega, by omega⟩, rfl, hT⟩ dX12_areLaws_29
      · skip
        replace hT := hT.trans (if_neg c15)
        refine pm_iconst (v := 1) hC dX12_areLaws_24 ?_
        refine pm_goto (tgt := 29) hC dX12_areLaws_25 (by decide) ?_
        exact pm_iret hC hR (pm_narZ (by omega)) ⟨1, rfl, ⟨by omega, by omega, by omega⟩, rfl, hT⟩ dX12_areLaws_29
set_option maxHeartbeats 4000000 in
set_option maxRecDepth 100000 in
theorem fB_X12_kindOf (a1 : Int) (h0 : (-2147483648) ≤ a1 ∧ a1 ≤ 2147483647) : pm_K 1 yX12_kindOf cX12_kindOf 2 (some .int) (fun av V => av = [(3, 90), (0, a1)] ∧ pm_oq pm_qB V) (fun _ V r V' => ∃ y, r = some (0, y) ∧ (0 ≤ y ∧ y ≤ 3) ∧ V = V' ∧ F_X12_kindOf a1 V = (y, V)) := by
  refine pm_MT.of (by decide) ⟨Nat.le_refl _, by decide⟩ (fun av V h => by rw [h.1]; exact (by decide : pm_words [(3, 0), (0, 0)] ≤ 2)) ?_
  rintro X av V0 hC - hR ⟨rfl, hV0⟩
  change pm_J X 0 [(0, (3, 90)), (1, (0, a1))] [] 118 V0
  have hT := F_X12_kindOf_eq a1 V0
  refine pm_aload_n hC 0 (by decide) dX12_kindOf_0 rfl ?_
  obtain ⟨y1, e2⟩ : ∃ y, V0 90 48 = y := ⟨_, rfl⟩
  have b3 := hV0.get 90 48 (lo := 0) (hi := 8) (by decide) (by decide) rfl
  rw [e2] at b3
  replace hT := hT.trans (pf_let_eq e2)
  refine pm_getf (v := y1) hC 90 fl_X12_305 rfl rfl (by decide) rfl e2 dX12_kindOf_1 ?_
  refine pm_aload_n hC 0 (by decide) dX12_kindOf_4 rfl ?_
  obtain ⟨y4, e5⟩ : ∃ y, V0 90 49 = y := ⟨_, rfl⟩
  have b6 := hV0.get 90 49 (lo := 0) (hi := 8) (by decide) (by decide) rfl
  rw [e5] at b6
  replace hT := hT.trans (pf_let_eq e5)
  refine pm_getf (v := y4) hC 90 fl_X12_308 rfl rfl (by decide) rfl e5 dX12_kindOf_5 ?_
  refine pm_icmp_ne (tgt := 27) hC ⟨by omega, by omega⟩ ⟨by omega, by omega⟩ dX12_kindOf_8 (by decide) (fun c7 => ?_) (fun c7 => ?_)
  · skip
    replace hT := hT.trans (if_pos c7)
    refine pm_iload_n hC 1 dX12_kindOf_27 rfl ?_
    refine pm_aload_n hC 0 (by decide) dX12_kindOf_28 rfl ?_
    refine pm_getf (v := y1) hC 90 fl_X12_305 rfl rfl (by decide) rfl e2 dX12_kindOf_29 ?_
    refine pm_icmp_ne (tgt := 39) hC ⟨by omega, by omega⟩ ⟨by omega, by omega⟩ dX12_kindOf_32 (by decide) (fun c8 => ?_) (fun c8 => ?_)
    · skip
      replace hT := hT.trans (if_pos c8)
      refine pm_iload_n hC 1 dX12_kindOf_39 rfl ?_
      refine pm_aload_n hC 0 (by decide) dX12_kindOf_40 rfl ?_
      refine pm_getf (v := y4) hC 90 fl_X12_308 rfl rfl (by decide) rfl e5 dX12_kindOf_41 ?_
      refine pm_icmp_ne (tgt := 51) hC ⟨by omega, by omega⟩ ⟨by omega, by omega⟩ dX12_kindOf_44 (by decide) (fun c9 => ?_) (fun c9 => ?_)
      · skip
        replace hT := hT.trans (if_pos c9)
        refine pm_iconst (v := 3) hC dX12_kindOf_51 ?_
        exact pm_iret hC hR pm_nar0 ⟨3, rfl, ⟨by omega, by omega⟩, rfl, hT⟩ dX12_kindOf_52
      · skip
        replace hT := hT.trans (if_neg (fun q => q c9))
        refine pm_iconst (v := 2) hC dX12_kindOf_47 ?_
        refine pm_goto (tgt := 52) hC dX12_kindOf_48 (by decide) ?_
        exact pm_iret hC hR pm_nar0 ⟨2, rfl, ⟨by omega, by omega⟩, rfl, hT⟩ dX12_kindOf_52
    · skip
      replace hT := hT.trans (if_neg (fun q => q c8))
      refine pm_iconst (v := 1) hC dX12_kindOf_35 ?_
      refine pm_goto (tgt := 52) hC dX12_kindOf_36 (by decide) ?_
      exact pm_iret hC hR pm_nar0 ⟨1, rfl, ⟨by omega, by omega⟩, rfl, hT⟩ dX12_kindOf_52
  · skip
    replace hT := hT.trans (if_neg (fun q => q c7))
    refine pm_iload_n hC 1 dX12_kindOf_11 rfl ?_
    refine pm_aload_n hC 0 (by decide) dX12_kindOf_12 rfl ?_
    refine pm_getf (v := y1) hC 90 fl_X12_305 rfl rfl (by decide) rfl e2 dX12_kindOf_13 ?_
    refine pm_icmp_ne (tgt := 23) hC ⟨by omega, by omega⟩ ⟨by omega, by omega⟩ dX12_kindOf_16 (by decide) (fun c10 => ?_) (fun c10 => ?_)
    · skip
      replace hT := hT.trans (if_pos c10)
      refine pm_iconst (v := 3) hC dX12_kindOf_23 ?_
      refine pm_goto (tgt := 52) hC dX12_kindOf_24 (by decide) ?_
      exact pm_iret hC hR pm_nar0 ⟨3, rfl, ⟨by omega, by omega⟩, rfl, hT⟩ dX12_kindOf_52
    · skip
      replace hT := hT.trans (if_neg (fun q => q c10))
      refine pm_iconst (v := 0) hC dX12_kindOf_19 ?_
      refine pm_goto (tgt := 52) hC dX12_kindOf_20 (by decide) ?_
      exact pm_iret hC hR pm_nar0 ⟨0, rfl, ⟨by omega, by omega⟩, rfl, hT⟩ dX12_kindOf_52
set_option maxHeartbeats 4000000 in
set_option maxRecDepth 100000 in
theorem fB_X12_likeliest  : pm_K 1 yX12_likeliest cX12_likeliest 3 (some .int) (fun av V => av = [(3, 90)] ∧ pm_oq pm_qB V) (fun _ V r V' => ∃ y, r = some (0, y) ∧ (0 ≤ y ∧ y ≤ 8) ∧ V = V' ∧ F_X12_likeliest  V = (y, V)) := by
  refine pm_MT.of (by decide) ⟨Nat.le_refl _, by decide⟩ (fun av V h => by rw [h.1]; exact (by decide : pm_words [(3, 0)] ≤ 3)) ?_
  rintro X av V0 hC - hR ⟨rfl, hV0⟩
  change pm_J X 0 [(0, (3, 90))] [] 118 V0
  have hT := F_X12_likeliest_eq  V0
  refine pm_iconst (v := 0) hC dX12_likeliest_0 ?_
  refine pm_istore_n (lv' := [(1, (0, 0)), (0, (3, 90))]) hC dX12_likeliest_1 (by decide) rfl ?_
  refine pm_iconst (v := 1) hC dX12_likeliest_2 ?_
  refine pm_istore_n (lv' := [(2, (0, 1)), (1, (0, 0)), (0, (3, 90))]) hC dX12_likeliest_3 (by decide) rfl ?_
  obtain ⟨B5, hB6, hT⟩ := pf_loop hT
  have L8 : ∀ (N10 : Nat) (x1 : Int) (x3 : Int), (0 ≤ x1 ∧ x1 ≤ 8) → (1 ≤ x3 ∧ x3 ≤ 9) → F_X12_likeliest  V0 = pf_val ((0 : Int), V0) B5 (x1, x3) → (Int.toNat (9 - x3)) = N10 → pm_J X 4 [(0, (3, 90)), (1, (0, x1)), (2, (0, x3))] [] 118 V0 := by
    intro N10
    induction N10 using Nat.strongRecOn with
    | _ N10 ih11 =>
    intro x1 x3 b2 b4 hT hm9
    have hb7 := congrFun hB6 (x1, x3)
    refine pm_iload_n hC 2 dX12_likeliest_4 rfl ?_
    refine pm_aload_n hC 0 (by decide) dX12_likeliest_5 rfl ?_
    obtain ⟨y12, e13⟩ : ∃ y, V0 90 16 = y := ⟨_, rfl⟩
    have b14 := hV0.get 90 16 (lo := 2) (hi := 9) (by decide) (by decide) rfl
    rw [e13] at b14
    replace hb7 := hb7.trans (pf_let_eq e13)
    refine pm_getf (v := y12) hC 90 fl_X12_220 rfl rfl (by decide) rfl e13 dX12_likeliest_6 ?_
    refine pm_icmp_ge (tgt := 36) hC ⟨by omega, by omega⟩ ⟨by omega, by omega⟩ dX12_likeliest_9 (by decide) (fun c15 => ?_) (fun c15 => ?_)
    · skip
      replace hb7 := hb7.trans (if_pos c15)
      refine pm_iload_n hC 1 dX12_likeliest_36 rfl ?_
      have hT := hT.trans (pf_val_inr hb7)
      exact pm_iret hC hR pm_nar0 ⟨x1, rfl, ⟨by omega, by omega⟩, rfl, hT⟩ dX12_likeliest_37
    · skip
      replace hb7 := hb7.trans (if_neg (Int.not_le.mpr c15))
      refine pm_aload_n hC 0 (by decide) dX12_likeliest_12 rfl ?_
      have e16 : V0 90 50 = 112 := hV0.one 90 50 (by decide) (by decide) rfl
      refine pm_getf (v := 112) hC 90 fl_X12_76 rfl rfl (by decide) rfl e16 dX12_likeliest_13 ?_
      refine pm_iload_n hC 2 dX12_likeliest_16 rfl ?_
      obtain ⟨y17, e18⟩ : ∃ y, V0 112 (x3 : Int).toNat = y := ⟨_, rfl⟩
      replace hb7 := hb7.trans (pf_let_eq e18)
      have b19 := hV0.get 112 (x3 : Int).toNat (lo := 0) (hi := 80000000) (t := 0) (by decide) (show _ < 9 by omega) rfl
      rw [e18] at b19
      refine pm_laload (len := 9) (v := y17) hC 112 rfl rfl (by decide) ⟨by omega, by omega⟩ (by decide) e18 dX12_likeliest_17 ?_
      refine pm_aload_n hC 0 (by decide) dX12_likeliest_18 rfl ?_
      refine pm_getf (v := 112) hC 90 fl_X12_76 rfl rfl (by decide) rfl e16 dX12_likeliest_19 ?_
      refine pm_iload_n hC 1 dX12_likeliest_22 rfl ?_
      obtain ⟨y20, e21⟩ : ∃ y, V0 112 (x1 : Int).toNat = y := ⟨_, rfl⟩
      replace hb7 := hb7.trans (pf_let_eq e21)
      have b22 := hV0.get 112 (x1 : Int).toNat (lo := 0) (hi := 80000000) (t := 0) (by decide) (show _ < 9 by omega) rfl
      rw [e21] at b22
      refine pm_laload (len := 9) (v := y20) hC 112 rfl rfl (by decide) ⟨by omega, by omega⟩ (by decide) e21 dX12_likeliest_23 ?_
      refine pm_lcmp hC ⟨by omega, by omega⟩ ⟨by omega, by omega⟩ dX12_likeliest_24 (fun y23 b24 => ?_)
      replace hb7 := hb7.trans (pf_let_eq (pm_cmp_u b24))
      refine pm_if_le (tgt := 30) hC ⟨by omega, by omega⟩ dX12_likeliest_25 (by decide) (fun c25 => ?_) (fun c25 => ?_)
      · skip
        replace hb7 := hb7.trans (if_pos c25)
        obtain ⟨x26, ei27⟩ : ∃ y : Int, x3 + 1 = y := ⟨_, rfl⟩
        replace hb7 := hb7.trans (pf_let_eq ei27)
        refine pm_iinc (y := x26) (lv' := [(2, (0, x26)), (0, (3, 90)), (1, (0, x1))]) hC 2 dX12_likeliest_30 (by decide) rfl ei27 rfl ?_
        refine pm_goto (tgt := 4) hC dX12_likeliest_33 (by decide) ?_
        refine pm_lvsub [1, 2, 0] (lv' := [(0, (3, 90)), (1, (0, x1)), (2, (0, x26))]) rfl ?_
        exact ih11 _ (by omega) x1 x26 ⟨by omega, by omega⟩ ⟨by omega, by omega⟩ (hT.trans (pf_val_inl hb7)) rfl
      · skip
        replace hb7 := hb7.trans (if_neg (Int.not_le.mpr c25))
        refine pm_iload_n hC 2 dX12_likeliest_28 rfl ?_
        refine pm_istore_n (lv' := [(1, (0, x3)), (0, (3, 90)), (2, (0, x3))]) hC dX12_likeliest_29 (by decide) rfl ?_
        obtain ⟨x28, ei29⟩ : ∃ y : Int, x3 + 1 = y := ⟨_, rfl⟩
        replace hb7 := hb7.trans (pf_let_eq ei29)
        refine pm_iinc (y := x28) (lv' := [(2, (0, x28)), (1, (0, x3)), (0, (3, 90))]) hC 2 dX12_likeliest_30 (by decide) rfl ei29 rfl ?_
        refine pm_goto (tgt := 4) hC dX12_likeliest_33 (by decide) ?_
        refine pm_lvsub [2, 1, 0] (lv' := [(0, (3, 90)), (1, (0, x3)), (2, (0, x28))]) rfl ?_
        exact ih11 _ (by omega) x3 x28 ⟨by omega, by omega⟩ ⟨by omega, by omega⟩ (hT.trans (pf_val_inl hb7)) rfl
  refine pm_lvsub [2, 1, 0] (lv' := [(0, (3, 90)), (1, (0, 0)), (2, (0, 1))]) rfl ?_
  exact L8 _ 0 1 ⟨by decide, by decide⟩ ⟨by decide, by decide⟩ hT rfl
set_option maxHeartbeats 4000000 in
set_option maxRecDepth 100000 in
theorem fB_X12_noticedNow  : pm_K 1 yX12_noticedNow cX12_noticedNow 5 (some .int) (fun av V => av = [(3, 90)] ∧ pm_oq pm_qB V) (fun _ V r V' => ∃ y, r = some (0, y) ∧ ((-2147483648) ≤ y ∧ y ≤ 2147483647) ∧ V = V' ∧ F_X12_noticedNow  V = (y, V)) := by
  refine pm_MT.of (by decide) ⟨Nat.le_refl _, by decide⟩ (fun av V h => by rw [h.1]; exact (by decide : pm_words [(3, 0)] ≤ 5)) ?_
  rintro X av V0 hC - hR ⟨rfl, hV0⟩
  change pm_J X 0 [(0, (3, 90))] [] 118 V0
  have hT := F_X12_noticedNow_eq  V0
  refine pm_bipush (v := 16) hC dX12_noticedNow_0 (by decide) ?_
  refine pm_aload_n hC 0 (by decide) dX12_noticedNow_2 rfl ?_
  obtain ⟨y1, e2⟩ : ∃ y, V0 90 47 = y := ⟨_, rfl⟩
  have b3 := hV0.get 90 47 (lo := 0) (hi := 16) (by decide) (by decide) rfl
  rw [e2] at b3
  replace hT := hT.trans (pf_let_eq e2)
  refine pm_getf (v := y1) hC 90 fl_X12_323 rfl rfl (by decide) rfl e2 dX12_noticedNow_3 ?_
  refine pm_isub hC dX12_noticedNow_6 ?_
  refine pm_i2l hC ⟨by omega, by omega⟩ dX12_noticedNow_7 ?_
  refine pm_aload_n hC 0 (by decide) dX12_noticedNow_8 rfl ?_
  obtain ⟨y4, e5⟩ : ∃ y, V0 90 44 = y := ⟨_, rfl⟩
  have b6 := hV0.get 90 44 (lo := 0) (hi := 13851) (by decide) (by decide) rfl
  rw [e5] at b6
  replace hT := hT.trans (pf_let_eq e5)
  refine pm_getf (v := y4) hC 90 fl_X12_326 rfl rfl (by decide) rfl e5 dX12_noticedNow_9 ?_
  refine pm_lmul hC dX12_noticedNow_12 ?_
  have b8 : 0 ≤ ((16 - y1) * y4) ∧ ((16 - y1) * y4) ≤ 221616 := pm_mulb (by omega) (by omega) (show (16 - y1) ≤ 16 by omega) (show y4 ≤ 13851 by omega) (by decide)
  obtain ⟨y7, hey7⟩ : ∃ z, ((16 - y1) * y4) = z := ⟨_, rfl⟩
  rw [hey7] at b8 ⊢
  replace hT := hT.trans (pf_let_eq hey7)
  refine pm_aload_n hC 0 (by decide) dX12_noticedNow_13 rfl ?_
  obtain ⟨y9, e10⟩ : ∃ y, V0 90 45 = y := ⟨_, rfl⟩
  have b11 := hV0.get 90 45 (lo := 0) (hi := 1539) (by decide) (by decide) rfl
  rw [e10] at b11
  replace hT := hT.trans (pf_let_eq e10)
  refine pm_getf (v := y9) hC 90 fl_X12_329 rfl rfl (by decide) rfl e10 dX12_noticedNow_14 ?_
  refine pm_lmul hC dX12_noticedNow_17 ?_
  have b13 : 0 ≤ (y7 * y9) ∧ (y7 * y9) ≤ 341067024 := pm_mulb (by omega) (by omega) (show y7 ≤ 221616 by omega) (show y9 ≤ 1539 by omega) (by decide)
  obtain ⟨y12, hey12⟩ : ∃ z, (y7 * y9) = z := ⟨_, rfl⟩
  rw [hey12] at b13 ⊢
  replace hT := hT.trans (pf_let_eq hey12)
  refine pm_lstore_n (lv' := [(1, (1, y12)), (0, (3, 90))]) hC dX12_noticedNow_18 (by decide) rfl ?_
  refine pm_aload_n hC 1 (by decide) dX12_noticedNow_19 rfl ?_
  refine pm_getf (v := y1) hC 90 fl_X12_323 rfl rfl (by decide) rfl e2 dX12_noticedNow_20 ?_
  refine pm_aload_n hC 1 (by decide) dX12_noticedNow_23 rfl ?_
  obtain ⟨y14, e15⟩ : ∃ y, V0 90 16 = y := ⟨_, rfl⟩
  have b16 := hV0.get 90 16 (lo := 2) (hi := 9) (by decide) (by decide) rfl
  rw [e15] at b16
  replace hT := hT.trans (pf_let_eq e15)
  refine pm_getf (v := y14) hC 90 fl_X12_220 rfl rfl (by decide) rfl e15 dX12_noticedNow_24 ?_
  refine pm_imul hC dX12_noticedNow_27 ?_
  have b18 : 0 ≤ (y1 * y14) ∧ (y1 * y14) ≤ 144 := pm_mulb (by omega) (by omega) (show y1 ≤ 16 by omega) (show y14 ≤ 9 by omega) (by decide)
  obtain ⟨y17, hey17⟩ : ∃ z, (y1 * y14) = z := ⟨_, rfl⟩
  rw [hey17] at b18 ⊢
  replace hT := hT.trans (pf_let_eq hey17)
  refine pm_i2l hC ⟨by omega, by omega⟩ dX12_noticedNow_28 ?_
  refine pm_aload_n hC 1 (by decide) dX12_noticedNow_29 rfl ?_
  obtain ⟨y19, e20⟩ : ∃ y, V0 90 46 = y := ⟨_, rfl⟩
  have b21 := hV0.get 90 46 (lo := 0) (hi := 2368521) (by decide) (by decide) rfl
  rw [e20] at b21
  replace hT := hT.trans (pf_let_eq e20)
  refine pm_getf (v := y19) hC 90 fl_X12_332 rfl rfl (by decide) rfl e20 dX12_noticedNow_30 ?_
  refine pm_lmul hC dX12_noticedNow_33 ?_
  have b23 : 0 ≤ (y17 * y19) ∧ (y17 * y19) ≤ 341067024 := pm_mulb (by omega) (by omega) (show y17 ≤ 144 by omega) (show y19 ≤ 2368521 by omega) (by decide)
  obtain ⟨y22, hey22⟩ : ∃ z, (y17 * y19) = z := ⟨_, rfl⟩
  rw [hey22] at b23 ⊢
  replace hT := hT.trans (pf_let_eq hey22)
  refine pm_lstore_n (lv' := [(3, (1, y22)), (1, (1, y12)), (0, (3, 90))]) hC dX12_noticedNow_34 (by decide) rfl ?_
  refine pm_lload_n hC 1 dX12_noticedNow_35 rfl ?_
  refine pm_lload_n hC 0 dX12_noticedNow_36 rfl ?_
  refine pm_ladd hC dX12_noticedNow_37 ?_
  refine pm_lconst (x := 0) hC dX12_noticedNow_38 rfl ?_
  refine pm_lcmp hC ⟨by omega, by omega⟩ ⟨by decide, by decide⟩ dX12_noticedNow_39 (fun y24 b25 => ?_)
  replace hT := hT.trans (pf_let_eq (pm_cmp_u b25))
  refine pm_if_ne (tgt := 49) hC ⟨by omega, by omega⟩ dX12_noticedNow_40 (by decide) (fun c26 => ?_) (fun c26 => ?_)
  · skip
    replace hT := hT.trans (if_pos c26)
    refine pm_ldc2 (v := 1000) hC 7092 dX12_noticedNow_49 (by decide +kernel) ?_
    refine pm_lload_n hC 1 dX12_noticedNow_52 rfl ?_
    refine pm_lmul hC dX12_noticedNow_53 ?_
    refine pm_lload_n hC 1 dX12_noticedNow_54 rfl ?_
    refine pm_lload_n hC 0 dX12_noticedNow_55 rfl ?_
    refine pm_ladd hC dX12_noticedNow_56 ?_
    refine pm_ldivT hC ⟨by omega, by omega⟩ ⟨by omega, by omega⟩ (by omega) dX12_noticedNow_57 ?_
    refine pm_wrL hC (fun y27 hw29 b28 => ?_)
    replace hT := hT.trans (pf_let_eq hw29)
    have b28 := And.intro b28.1 b28.2
    refine pm_l2i hC dX12_noticedNow_58 ?_
    refine pm_wr hC (fun y30 hw32 b31 => ?_)
    replace hT := hT.trans (pf_let_eq hw32)
    have b31 := And.intro b31.1 b31.2
    exact pm_iret hC hR pm_nar0 ⟨y30, rfl, ⟨by omega, by omega⟩, rfl, hT⟩ dX12_noticedNow_59
  · skip
    replace hT := hT.trans (if_neg (fun q => q c26))
    refine pm_sipush (v := 1000) hC dX12_noticedNow_43 (by decide) ?_
    refine pm_goto (tgt := 59) hC dX12_noticedNow_46 (by decide) ?_
    exact pm_iret hC hR pm_nar0 ⟨1000, rfl, ⟨by omega, by omega⟩, rfl, hT⟩ dX12_noticedNow_59
set_option maxHeartbeats 4000000 in
set_option maxRecDepth 100000 in
theorem fB_X12_undo  : pm_K 1 yX12_undo cX12_undo 1 (some .int) (fun av V => av = [(3, 90)] ∧ pm_oq pm_qB V ∧ pm_h3 V) (fun _ V r V' => ∃ y, r = some (0, y) ∧ ((-1) ≤ y ∧ y ≤ 59) ∧ pm_oq pm_qB V' ∧ pm_fs [] [25] V V' ∧ pm_h3 V' ∧ F_X12_undo  V = (y, V')) := by
  refine pm_MT.of (by decide) ⟨Nat.le_refl _, by decide⟩ (fun av V h => by rw [h.1]; exact (by decide : pm_words [(3, 0)] ≤ 1)) ?_
  rintro X av V0 hC - hR ⟨rfl, hV0, hn_pm_h3⟩
  change pm_J X 0 [(0, (3, 90))] [] 118 V0
  have hT := F_X12_undo_eq  V0
  obtain ⟨y1, e2⟩ : ∃ y, V0 90 25 = y := ⟨_, rfl⟩
  have b3 := hV0.get 90 25 (lo := 0) (hi := 60) (by decide) (by decide) rfl
  rw [e2] at b3
  replace hT := hT.trans (pf_let_eq e2)
  refine pm_aload_n hC 0 (by decide) dX12_undo_0 rfl ?_
  refine pm_getf (v := y1) hC 90 fl_X12_235 rfl rfl (by decide) rfl e2 dX12_undo_1 ?_
  refine pm_if_ne (tgt := 9) hC ⟨by omega, by omega⟩ dX12_undo_4 (by decide) (fun c4 => ?_) (fun c4 => ?_)
  · skip
    replace hT := hT.trans (if_pos c4)
    refine pm_aload_n hC 0 (by decide) dX12_undo_9 rfl ?_
    refine pm_dup hC rfl dX12_undo_10 ?_
    refine pm_getf (v := y1) hC 90 fl_X12_235 rfl rfl (by decide) rfl e2 dX12_undo_11 ?_
    refine pm_iconst (v := 1) hC dX12_undo_14 ?_
    refine pm_isub hC dX12_undo_15 ?_
    refine pm_putf hC 90 fl_X12_235 rfl rfl rfl (by decide) rfl trivial dX12_undo_16 ?_
    refine pm_aload_n hC 0 (by decide) dX12_undo_19 rfl ?_
    refine pm_getf (v := (y1 - 1)) hC 90 fl_X12_235 rfl rfl (by decide) rfl rfl dX12_undo_20 ?_
    exact pm_iret hC hR pm_nar0 ⟨(y1 - 1), rfl, ⟨by omega, by omega⟩, (hV0.put 90 25 (x := (y1 - 1)) (lo := 0) (hi := 60) rfl ⟨by omega, by omega⟩), ((pm_fs.rf (cs := []) (fs := [25]) (V := V0)).upf 25 (y1 - 1) rfl), (pm_h3.less hn_pm_h3 (by rw [e2]; omega)), hT⟩ dX12_undo_23
  · skip
    replace hT := hT.trans (if_neg (fun q => q c4))
    refine pm_iconst (v := (-1)) hC dX12_undo_7 ?_
    exact pm_iret hC hR pm_nar0 ⟨(-1), rfl, ⟨by omega, by omega⟩, hV0, (pm_fs.rf (cs := []) (fs := [25]) (V := V0)), hn_pm_h3, hT⟩ dX12_undo_8
set_option maxHeartbeats 4000000 in
set_option maxRecDepth 100000 in
theorem fB_X12_isOf (a1 a2 : Int) (h0 : 0 ≤ a1 ∧ a1 ≤ 59) (h1 : (-2147483648) ≤ a2 ∧ a2 ≤ 2147483647) : pm_K 1 yX12_isOf cX12_isOf 3 (some .boolean) (fun av V => av = [(3, 90), (0, a1), (0, a2)] ∧ pm_oq pm_qB V) (fun _ V r V' => ∃ y, r = some (0, y) ∧ (0 ≤ y ∧ y ≤ 1) ∧ V = V' ∧ F_X12_isOf a1 a2 V = (y, V)) := by
  refine pm_MT.of (by decide) ⟨Nat.le_refl _, by decide⟩ (fun av V h => by rw [h.1]; exact (by decide : pm_words [(3, 0), (0, 0), (0, 0)] ≤ 3)) ?_
  rintro X av V0 hC - hR ⟨rfl, hV0⟩
  change pm_J X 0 [(0, (3, 90)), (1, (0, a1)), (2, (0, a2))] [] 118 V0
  have hT := F_X12_isOf_eq a1 a2 V0
  refine pm_iload_n hC 2 dX12_isOf_0 rfl ?_
  refine pm_iconst (v := (-1)) hC dX12_isOf_1 ?_
  refine pm_icmp_eq (tgt := 29) hC ⟨by omega, by omega⟩ ⟨by decide, by decide⟩ dX12_isOf_2 (by decide) (fun c1 => ?_) (fun c1 => ?_)
  · skip
    replace hT := hT.trans (if_pos c1)
    refine pm_iconst (v := 1) hC dX12_isOf_29 ?_
    refine pm_goto (tgt := 34) hC dX12_isOf_30 (by decide) ?_
    exact pm_iret hC hR (pm_narZ (by omega)) ⟨1, rfl, ⟨by omega, by omega⟩, rfl, hT⟩ dX12_isOf_34
  · skip
    replace hT := hT.trans (if_neg c1)
    refine pm_aload_n hC 0 (by decide) dX12_isOf_5 rfl ?_
    have e2 : V0 90 24 = 100 := hV0.one 90 24 (by decide) (by decide) rfl
    refine pm_getf (v := 100) hC 90 fl_X12_40 rfl rfl (by decide) rfl e2 dX12_isOf_6 ?_
    refine pm_iconst (v := 4) hC dX12_isOf_9 ?_
    refine pm_aload_n hC 0 (by decide) dX12_isOf_10 rfl ?_
    have e3 : V0 90 26 = 101 := hV0.one 90 26 (by decide) (by decide) rfl
    refine pm_getf (v := 101) hC 90 fl_X12_43 rfl rfl (by decide) rfl e3 dX12_isOf_11 ?_
    refine pm_iconst (v := 5) hC dX12_isOf_14 ?_
    refine pm_iload_n hC 1 dX12_isOf_15 rfl ?_
    refine pm_imul hC dX12_isOf_16 ?_
    obtain ⟨y4, e5⟩ : ∃ y, V0 101 ((5 * a1) : Int).toNat = y := ⟨_, rfl⟩
    replace hT := hT.trans (pf_let_eq e5)
    have b6 := hV0.get1 101 ((5 * a1) : Int).toNat (lo := 0) (hi := 999) (by decide) (show _ < 300 by omega) ((pm_qe_r (tb := pm_qB) (k := 101) (i := ((5 * a1) : Int).toNat) (m := 5) (r := 0) (l := [(0, 999, 1), (0, 99, 0), (-99, 99, 0), (0, 8, 0), (0, 1, 0)]) rfl rfl (by omega)).trans rfl)
    rw [e5] at b6
    refine pm_iaload (len := 300) (v := y4) hC 101 rfl rfl (by decide) ⟨by omega, by omega⟩ (by decide) e5 dX12_isOf_17 ?_
    refine pm_bipush (v := 100) hC dX12_isOf_18 (by decide) ?_
    refine pm_idiv hC ⟨by omega, by omega, by omega⟩ ⟨by decide, by decide, by decide⟩ dX12_isOf_20 ?_
    refine pm_imul hC dX12_isOf_21 ?_
    refine pm_iconst (v := 3) hC dX12_isOf_22 ?_
    refine pm_iadd hC dX12_isOf_23 ?_
    obtain ⟨y7, e8⟩ : ∃ y, V0 100 (((4 * (y4 / 100)) + 3) : Int).toNat = y := ⟨_, rfl⟩
    replace hT := hT.trans (pf_let_eq e8)
    have b9 := hV0.get 100 (((4 * (y4 / 100)) + 3) : Int).toNat (lo := 0) (hi := 3) (t := 0) (by decide) (show _ < 40 by omega) ((pm_qe_r (tb := pm_qB) (k := 100) (i := (((4 * (y4 / 100)) + 3) : Int).toNat) (m := 4) (r := 3) (l := [(-30, 30, 0), (-30, 30, 0), (0, 16, 0), (0, 3, 0)]) rfl rfl (by omega)).trans rfl)
    rw [e8] at b9
    refine pm_iaload (len := 40) (v := y7) hC 100 rfl rfl (by decide) ⟨by omega, by omega⟩ (by decide) e8 dX12_isOf_24 ?_
    refine pm_iload_n hC 2 dX12_isOf_25 rfl ?_
    refine pm_icmp_ne (tgt := 33) hC ⟨by omega, by omega⟩ ⟨by omega, by omega⟩ dX12_isOf_26 (by decide) (fun c10 => ?_) (fun c10 => ?_)
    · skip
      replace hT := hT.trans (if_pos c10)
      refine pm_iconst (v := 0) hC dX12_isOf_33 ?_
      exact pm_iret hC hR (pm_narZ (by omega)) ⟨0, rfl, ⟨by omega, by omega⟩, rfl, hT⟩ dX12_isOf_34
    · skip
      replace hT := hT.trans (if_neg (fun q => q c10))
      refine pm_iconst (v := 1) hC dX12_isOf_29 ?_
      refine pm_goto (tgt := 34) hC dX12_isOf_30 (by decide) ?_
      exact pm_iret hC hR (pm_narZ (by omega)) ⟨1, rfl, ⟨by omega, by omega⟩, rfl, hT⟩ dX12_isOf_34
set_option maxHeartbeats 4000000 in
set_option maxRecDepth 100000 in
theorem fB_X12_brought (a1 : Int) (h0 : (-9223372036854775808) ≤ a1 ∧ a1 ≤ 9223372036854775807) : pm_K 1 yX12_brought cX12_brought 2 (some .int) (fun av V => av = [(1, a1)] ∧ pm_oq pm_qB V) (fun _ V r V' => ∃ y, r = some (0, y) ∧ ((-1000000) ≤ y ∧ y ≤ 1000000) ∧ V = V' ∧ F_X12_brought a1 V = (y, V)) := by
  refine pm_MT.of (by decide) ⟨Nat.le_refl _, by decide⟩ (fun av V h => by rw [h.1]; exact (by decide : pm_words [(1, 0)] ≤ 2)) ?_
  rintro X av V0 hC - hR ⟨rfl, hV0⟩
  change pm_J X 0 [(0, (1, a1))] [] 118 V0
  have hT := F_X12_brought_eq a1 V0
  refine pm_lload_n hC 0 dX12_brought_0 rfl ?_
  refine pm_ldc2 (v := (-1000000)) hC 8017 dX12_brought_1 (by decide +kernel) ?_
  refine pm_lcmp hC ⟨by omega, by omega⟩ ⟨by decide, by decide⟩ dX12_brought_4 (fun y1 b2 => ?_)
  replace hT := hT.trans (pf_let_eq (pm_cmp_u b2))
  refine pm_if_ge (tgt := 14) hC ⟨by omega, by omega⟩ dX12_brought_5 (by decide) (fun c3 => ?_) (fun c3 => ?_)
  · skip
    replace hT := hT.trans (if_pos c3)
    refine pm_lload_n hC 0 dX12_brought_14 rfl ?_
    refine pm_ldc2 (v := 1000000) hC 8018 dX12_brought_15 (by decide +kernel) ?_
    refine pm_lcmp hC ⟨by omega, by omega⟩ ⟨by decide, by decide⟩ dX12_brought_18 (fun y4 b5 => ?_)
    replace hT := hT.trans (pf_let_eq (pm_cmp_u b5))
    refine pm_if_le (tgt := 28) hC ⟨by omega, by omega⟩ dX12_brought_19 (by decide) (fun c6 => ?_) (fun c6 => ?_)
    · skip
      replace hT := hT.trans (if_pos c6)
      refine pm_lload_n hC 0 dX12_brought_28 rfl ?_
      refine pm_l2i hC dX12_brought_29 ?_
      exact pm_iret hC hR pm_nar0 ⟨a1, rfl, ⟨by omega, by omega⟩, rfl, hT⟩ dX12_brought_30
    · skip
      replace hT := hT.trans (if_neg (Int.not_le.mpr c6))
      refine pm_ldc2 (v := 1000000) hC 8018 dX12_brought_22 (by decide +kernel) ?_
      refine pm_goto (tgt := 29) hC dX12_brought_25 (by decide) ?_
      refine pm_l2i hC dX12_brought_29 ?_
      exact pm_iret hC hR pm_nar0 ⟨1000000, rfl, ⟨by omega, by omega⟩, rfl, hT⟩ dX12_brought_30
  · skip
    replace hT := hT.trans (if_neg (Int.not_le.mpr c3))
    refine pm_ldc2 (v := (-1000000)) hC 8017 dX12_brought_8 (by decide +kernel) ?_
    refine pm_goto (tgt := 29) hC dX12_brought_11 (by decide) ?_
    refine pm_l2i hC dX12_brought_29 ?_
    exact pm_iret hC hR pm_nar0 ⟨(-1000000), rfl, ⟨by omega, by omega⟩, rfl, hT⟩ dX12_brought_30
