noncomputable def F_X12_partedNow (a1 a2 : Int) (V0 : pm_M) : Int × pm_M := pf_let (V0 90 42) fun z0 => pf_let (V0 90 43) fun z1 => pf_call (F_X12_weighs a1 V0) fun _ V2 => pf_let (V2 90 51) fun y17 => pf_val ((0 : Int), V0) (fun (q : Int × pm_M) => match q with | (x21, V23) => (pf_let (V23 90 16) fun y41 => (if y41 ≤ x21 then (pf_call (F_X12_weighs a2 V23) fun _ V46 => pf_val (.inr ((0 : Int), V0)) (fun (q : Int × Int) => match q with | (x62, x64) => ((if y41 ≤ x64 then (pf_let (V46 90 51) fun y75 => pf_let (((2 * y17) * y75)) fun y78 => pf_let (pm_cmp x62 y78) fun y82 => (if ¬ (y82 = 0) then (pf_val (.inr (.inr ((0 : Int), V0))) (fun (q : Int × Int × Int) => match q with | (x85, x87, x89) => ((if 3 ≤ x89 then ((.inr (.inr (.inr (x87, V46))))) else (pf_let (pm_w64 (x85 * 10)) fun y99 => pf_let (pm_w32 (10 * x87)) fun y102 => pf_let (pm_w64 (Int.tdiv y99 y78)) fun y105 => pf_let (pm_w32 y105) fun y108 => pf_let (pm_w32 (y102 + y108)) fun y111 => pf_let (pm_w64 (Int.tmod y99 y78)) fun y114 => pf_let (x89 + 1) fun x117 => (.inl (y114, y111, x117)))))) (x62, 0, 0)) else ((.inr (.inr (1000, V46)))))) else (pf_let (V46 115 (x64 : Int).toNat) fun y120 => pf_let (V46 90 51) fun y123 => pf_let ((y120 * y123)) fun y126 => pf_let (V46 112 (x64 : Int).toNat) fun y129 => pf_let ((y129 * y17)) fun y132 => pf_let (pm_cmp (y126 - y132) 0) fun y134 => (if 0 ≤ y134 then (pf_let (x64 + 1) fun x137 => (.inl ((x62 + (y126 - y132)), x137))) else (pf_let (x64 + 1) fun x139 => (.inl ((x62 + (-(y126 - y132))), x139)))))))) (0, 0)) else (pf_let (V23 112 (x21 : Int).toNat) fun y143 => pf_let (x21 + 1) fun x146 => (.inl (x146, (pm_up V23 115 (x21 : Int).toNat y143))))))) (0, V2)
theorem F_X12_partedNow_eq (a1 a2 : Int) (V0 : pm_M) : F_X12_partedNow a1 a2 V0 = pf_let (V0 90 42) fun z0 => pf_let (V0 90 43) fun z1 => pf_call (F_X12_weighs a1 V0) fun _ V2 => pf_let (V2 90 51) fun y17 => pf_val ((0 : Int), V0) (fun (q : Int × pm_M) => match q with | (x21, V23) => (pf_let (V23 90 16) fun y41 => (if y41 ≤ x21 then (pf_call (F_X12_weighs a2 V23) fun _ V46 => pf_val (.inr ((0 : Int), V0)) (fun (q : Int × Int) => match q with | (x62, x64) => ((if y41 ≤ x64 then (pf_let (V46 90 51) fun y75 => pf_let (((2 * y17) * y75)) fun y78 => pf_let (pm_cmp x62 y78) fun y82 => (if ¬ (y82 = 0) then (pf_val (.inr (.inr ((0 : Int), V0))) (fun (q : Int × Int × Int) => match q with | (x85, x87, x89) => ((if 3 ≤ x89 then ((.inr (.inr (.inr (x87, V46))))) else (pf_let (pm_w64 (x85 * 10)) fun y99 => pf_let (pm_w32 (10 * x87)) fun y102 => pf_let (pm_w64 (Int.tdiv y99 y78)) fun y105 => pf_let (pm_w32 y105) fun y108 => pf_let (pm_w32 (y102 + y108)) fun y111 => pf_let (pm_w64 (Int.tmod y99 y78)) fun y114 => pf_let (x89 + 1) fun x117 => (.inl (y114, y111, x117)))))) (x62, 0, 0)) else ((.inr (.inr (1000, V46)))))) else (pf_let (V46 115 (x64 : Int).toNat) fun y120 => pf_let (V46 90 51) fun y123 => pf_let ((y120 * y123)) fun y126 => pf_let (V46 112 (x64 : Int).toNat) fun y129 => pf_let ((y129 * y17)) fun y132 => pf_let (pm_cmp (y126 - y132) 0) fun y134 => (if 0 ≤ y134 then (pf_let (x64 + 1) fun x137 => (.inl ((x62 + (y126 - y132)), x137))) else (pf_let (x64 + 1) fun x139 => (.inl ((x62 + (-(y126 - y132))), x139)))))))) (0, 0)) else (pf_let (V23 112 (x21 : Int).toNat) fun y143 => pf_let (x21 + 1) fun x146 => (.inl (x146, (pm_up V23 115 (x21 : Int).toNat y143))))))) (0, V2) := rfl
noncomputable def F_X12_parted (a1 a2 a3 a4 : Int) (V0 : pm_M) : Int × pm_M := pf_let (V0 90 16) fun y1 => pf_call (F_X12_areLaws a1 V0) fun y7 _ => (if y7 = 0 then (((-1), V0)) else (pf_call (F_X12_isTrial a2 a3 a4 V0) fun y14 _ => (if ¬ (y14 = 0) then (pf_call (F_X12_works a2 a3 a4 V0) fun _ V19 => pf_let (V19 90 42) fun z32 => pf_let (V19 90 43) fun z34 => pf_call (F_X12_partedNow (a1 / 10) (a1 % 10) V19) fun y41 V37 => (y41, V37)) else (((-1), V0)))))
theorem F_X12_parted_eq (a1 a2 a3 a4 : Int) (V0 : pm_M) : F_X12_parted a1 a2 a3 a4 V0 = pf_let (V0 90 16) fun y1 => pf_call (F_X12_areLaws a1 V0) fun y7 _ => (if y7 = 0 then (((-1), V0)) else (pf_call (F_X12_isTrial a2 a3 a4 V0) fun y14 _ => (if ¬ (y14 = 0) then (pf_call (F_X12_works a2 a3 a4 V0) fun _ V19 => pf_let (V19 90 42) fun z32 => pf_let (V19 90 43) fun z34 => pf_call (F_X12_partedNow (a1 / 10) (a1 % 10) V19) fun y41 V37 => (y41, V37)) else (((-1), V0))))) := rfl
noncomputable def F_X12_next (a1 a2 a3 a4 : Int) (V0 : pm_M) : Int × pm_M := pf_let (V0 90 16) fun y1 => pf_call (F_X12_areLaws a1 V0) fun y7 _ => (if y7 = 0 then (((-1), V0)) else (pf_call (F_X12_isPerson a2 V0) fun y14 _ => (if y14 = 0 then (((-1), V0)) else (pf_call (F_X12_in a3 0 9 V0) fun y21 _ => (if y21 = 0 then (((-1), V0)) else (pf_call (F_X12_in a4 0 1 V0) fun y28 _ => (if ¬ (y28 = 0) then (pf_val ((0 : Int), V0) (fun (q : Int × Int × Int × pm_M) => match q with | (x32, x34, x36, V38) => ((if y1 ≤ x36 then ((if ¬ (a4 = 0) then ((.inr (x34, V38))) else ((.inr (x32, V38))))) else (pf_val (.inr ((0 : Int), V0)) (fun (q : Int × Int × Int × pm_M) => match q with | (x53, x55, x57, V59) => ((if y1 ≤ x57 then (pf_let (x36 + 1) fun x73 => (.inr (.inl (x53, x55, x73, V59)))) else (pf_val (.inr (.inr ((0 : Int), V0))) (fun (q : Int × Int × Int × pm_M) => match q with | (x75, x77, x79, V81) => ((if 10 ≤ x79 then (pf_let (x57 + 1) fun x95 => (.inr (.inl (x75, x77, x95, V81)))) else (pf_call (F_X12_works (((100 * a2) + (10 * x36)) + x57) ((10 * x79) + a3) 0 V81) fun _ V98 => pf_let (V98 90 42) fun z111 => pf_let (V98 90 43) fun z113 => pf_call (F_X12_partedNow (a1 / 10) (a1 % 10) V98) fun y120 V116 => (if x77 < y120 then (pf_let (x79 + 1) fun x134 => (.inl ((((100 * x36) + (10 * x57)) + x79), y120, x134, V116))) else (pf_let (x79 + 1) fun x136 => (.inl (x75, x77, x136, V116)))))))) (x53, x55, 0, V59))))) (x32, x34, 0, V38))))) ((-1), (-1), 0, V0)) else (((-1), V0)))))))))
theorem F_X12_next_eq (a1 a2 a3 a4 : Int) (V0 : pm_M) : F_X12_next a1 a2 a3 a4 V0 = pf_let (V0 90 16) fun y1 => pf_call (F_X12_areLaws a1 V0) fun y7 _ => (if y7 = 0 then (((-1), V0)) else (pf_call (F_X12_isPerson a2 V0) fun y14 _ => (if y14 = 0 then (((-1), V0)) else (pf_call (F_X12_in a3 0 9 V0) fun y21 _ => (if y21 = 0 then (((-1), V0)) else (pf_call (F_X12_in a4 0 1 V0) fun y28 _ => (if ¬ (y28 = 0) then (pf_val ((0 : Int), V0) (fun (q : Int × Int × Int × pm_M) => match q with | (x32, x34, x36, V38) => ((if y1 ≤ x36 then ((if ¬ (a4 = 0) then ((.inr (x34, V38))) else ((.inr (x32, V38))))) else (pf_val (.inr ((0 : Int), V0)) (fun (q : Int × Int × Int × pm_M) => match q with | (x53, x55, x57, V59) => ((if y1 ≤ x57 then (pf_let (x36 + 1) fun x73 => (.inr (.inl (x53, x55, x73, V59)))) else (pf_val (.inr (.inr ((0 : Int), V0))) (fun (q : Int × Int × Int × pm_M) => match q with | (x75, x77, x79, V81) => ((if 10 ≤ x79 then (pf_let (x57 + 1) fun x95 => (.inr (.inl (x75, x77, x95, V81)))) else (pf_call (F_X12_works (((100 * a2) + (10 * x36)) + x57) ((10 * x79) + a3) 0 V81) fun _ V98 => pf_let (V98 90 42) fun z111 => pf_let (V98 90 43) fun z113 => pf_call (F_X12_partedNow (a1 / 10) (a1 % 10) V98) fun y120 V116 => (if x77 < y120 then (pf_let (x79 + 1) fun x134 => (.inl ((((100 * x36) + (10 * x57)) + x79), y120, x134, V116))) else (pf_let (x79 + 1) fun x136 => (.inl (x75, x77, x136, V116)))))))) (x53, x55, 0, V59))))) (x32, x34, 0, V38))))) ((-1), (-1), 0, V0)) else (((-1), V0))))))))) := rfl
noncomputable def F_X12_knowing (a1 a2 a3 a4 : Int) (V0 : pm_M) : Int × pm_M := pf_let (V0 90 16) fun y1 => pf_call (F_X12_weighsIf a1 a2 a3 a4 V0) fun y7 V5 => (if ¬ (y7 = 0) then (pf_call (F_X12_likeliest  V5) fun y22 _ => pf_let (V5 90 42) fun y28 => pf_let (V5 90 43) fun y32 => pf_call (F_X12_weighs a1 (pm_up V5 90 47 0)) fun _ V26 => pf_call (F_X12_likeliest  V26) fun y52 _ => (if ¬ (y52 = y22) then ((0, V26)) else ((1, V26)))) else (((-1), V5)))
theorem F_X12_knowing_eq (a1 a2 a3 a4 : Int) (V0 : pm_M) : F_X12_knowing a1 a2 a3 a4 V0 = pf_let (V0 90 16) fun y1 => pf_call (F_X12_weighsIf a1 a2 a3 a4 V0) fun y7 V5 => (if ¬ (y7 = 0) then (pf_call (F_X12_likeliest  V5) fun y22 _ => pf_let (V5 90 42) fun y28 => pf_let (V5 90 43) fun y32 => pf_call (F_X12_weighs a1 (pm_up V5 90 47 0)) fun _ V26 => pf_call (F_X12_likeliest  V26) fun y52 _ => (if ¬ (y52 = y22) then ((0, V26)) else ((1, V26)))) else (((-1), V5))) := rfl
noncomputable def F_X12_tellsNames (a1 a2 a3 : Int) (V0 : pm_M) : Int × pm_M := pf_let (V0 90 16) fun y1 => pf_call (F_X12_works a1 a2 a3 V0) fun _ V5 => pf_let (V5 90 42) fun z18 => pf_let (V5 90 43) fun z20 => pf_call (F_X12_weighs 4 V5) fun _ V23 => pf_call (F_X12_chanceOfKind 3 V23) fun y43 _ => pf_call (F_X12_noticedNow  (pm_up V23 116 (0 : Int).toNat y43)) fun y49 _ => pf_let (V23 90 48) fun y52 => pf_call (F_X12_chanceOf y52 (pm_up (pm_up V23 116 (0 : Int).toNat y43) 116 (1 : Int).toNat y49)) fun y58 _ => pf_let (V23 90 49) fun y61 => pf_call (F_X12_chanceOf y61 (pm_up (pm_up (pm_up V23 116 (0 : Int).toNat y43) 116 (1 : Int).toNat y49) 116 (2 : Int).toNat y58)) fun y67 _ => pf_call (F_X12_far a3 (pm_up (pm_up (pm_up (pm_up (pm_up (pm_up V23 116 (0 : Int).toNat y43) 116 (1 : Int).toNat y49) 116 (2 : Int).toNat y58) 116 (3 : Int).toNat y67) 116 (4 : Int).toNat (a2 / 10)) 116 (5 : Int).toNat (a2 % 10))) fun y73 _ => (0, (pm_up (pm_up (pm_up (pm_up (pm_up (pm_up (pm_up V23 116 (0 : Int).toNat y43) 116 (1 : Int).toNat y49) 116 (2 : Int).toNat y58) 116 (3 : Int).toNat y67) 116 (4 : Int).toNat (a2 / 10)) 116 (5 : Int).toNat (a2 % 10)) 116 (6 : Int).toNat y73))
theorem F_X12_tellsNames_eq (a1 a2 a3 : Int) (V0 : pm_M) : F_X12_tellsNames a1 a2 a3 V0 = pf_let (V0 90 16) fun y1 => pf_call (F_X12_works a1 a2 a3 V0) fun _ V5 => pf_let (V5 90 42) fun z18 => pf_let (V5 90 43) fun z20 => pf_call (F_X12_weighs 4 V5) fun _ V23 => pf_call (F_X12_chanceOfKind 3 V23) fun y43 _ => pf_call (F_X12_noticedNow  (pm_up V23 116 (0 : Int).toNat y43)) fun y49 _ => pf_let (V23 90 48) fun y52 => pf_call (F_X12_chanceOf y52 (pm_up (pm_up V23 116 (0 : Int).toNat y43) 116 (1 : Int).toNat y49)) fun y58 _ => pf_let (V23 90 49) fun y61 => pf_call (F_X12_chanceOf y61 (pm_up (pm_up (pm_up V23 116 (0 : Int).toNat y43) 116 (1 : Int).toNat y49) 116 (2 : Int).toNat y58)) fun y67 _ => pf_call (F_X12_far a3 (pm_up (pm_up (pm_up (pm_up (pm_up (pm_up V23 116 (0 : Int).toNat y43) 116 (1 : Int).toNat y49) 116 (2 : Int).toNat y58) 116 (3 : Int).toNat y67) 116 (4 : Int).toNat (a2 / 10)) 116 (5 : Int).toNat (a2 % 10))) fun y73 _ => (0, (pm_up (pm_up (pm_up (pm_up (pm_up (pm_up (pm_up V23 116 (0 : Int).toNat y43) 116 (1 : Int).toNat y49) 116 (2 : Int).toNat y58) 116 (3 : Int).toNat y67) 116 (4 : Int).toNat (a2 / 10)) 116 (5 : Int).toNat (a2 % 10)) 116 (6 : Int).toNat y73)) := rfl
noncomputable def F_X12_draws (a1 : Int) (V0 : pm_M) : Int × pm_M := pf_let (V0 90 57) fun y1 => pf_let (pm_w64 (y1 * 1103515245)) fun y4 => pf_let (pm_w64 (y4 + 12345)) fun y7 => pf_let ((pm_landV y7 2147483647)) fun y10 => pf_let (((y10 / 256) % a1)) fun y12 => (y12, (pm_up V0 90 57 y10))
theorem F_X12_draws_eq (a1 : Int) (V0 : pm_M) : F_X12_draws a1 V0 = pf_let (V0 90 57) fun y1 => pf_let (pm_w64 (y1 * 1103515245)) fun y4 => pf_let (pm_w64 (y4 + 12345)) fun y7 => pf_let ((pm_landV y7 2147483647)) fun y10 => pf_let (((y10 / 256) % a1)) fun y12 => (y12, (pm_up V0 90 57 y10)) := rfl
set_option maxHeartbeats 4000000 in
set_option maxRecDepth 100000 in
theorem fB_X12_partedNow (a1 a2 : Int) (h0 : 0 ≤ a1 ∧ a1 ≤ 6) (h1 : 0 ≤ a2 ∧ a2 ≤ 6) : pm_K 4 yX12_partedNow cX12_partedNow 11 (some .int) (fun av V => av = [(3, 90), (0, a1), (0, a2)] ∧ pm_oq pm_qB V ∧ (1 ≤ V 90 42 ∧ V 90 42 ≤ 171) ∧ (1 ≤ V 90 43 ∧ V 90 43 ≤ 171) ∧ pm_w1 V ∧ pm_h1 V ∧ pm_h2 V ∧ pm_w3 V) (fun _ V r V' => ∃ y, r = some (0, y) ∧ ((-2147483648) ≤ y ∧ y ≤ 2147483647) ∧ pm_oq pm_qB V' ∧ pm_fs [112, 115] [51] V V' ∧ F_X12_partedNow a1 a2 V = (y, V')) := by
  refine pm_MT.of (by decide) ⟨Nat.le_refl _, by decide⟩ (fun av V h => by rw [h.1]; exact (by decide : pm_words [(3, 0), (0, 0), (0, 0)] ≤ 11)) ?_
  rintro X av V0 hC - hR ⟨rfl, hV0, hq0, hq1, hn_pm_w1, hn_pm_h1, hn_pm_h2, hn_pm_w3⟩
  change pm_J X 0 [(0, (3, 90)), (1, (0, a1)), (2, (0, a2))] [] 118 V0
  have hT := F_X12_partedNow_eq a1 a2 V0
  obtain ⟨z0, ez0⟩ : ∃ z, V0 90 42 = z := ⟨_, rfl⟩
  rw [ez0] at hq0
  replace hT := hT.trans (pf_let_eq ez0)
  obtain ⟨z1, ez1⟩ : ∃ z, V0 90 43 = z := ⟨_, rfl⟩
  rw [ez1] at hq1
  replace hT := hT.trans (pf_let_eq ez1)
  refine pm_aload_n hC 0 (by decide) dX12_partedNow_0 rfl ?_
  refine pm_iload_n hC 1 dX12_partedNow_1 rfl ?_
  have q4 : 1 ≤ V0 90 42 ∧ V0 90 42 ≤ 171 := by (have e : V0 90 42 = z0 := ez0); rw [e]; exact ⟨by omega, by omega⟩
  have q5 : 1 ≤ V0 90 43 ∧ V0 90 43 ≤ 171 := by (have e : V0 90 43 = z1 := ez1); rw [e]; exact ⟨by omega, by omega⟩
  refine pm_callV (ci := 12) (as := [(0, a1)]) (st := []) hC 90 (fB_X12_weighs a1 ⟨by omega, by omega⟩) lm_X12_380 li_X12_weighs (by decide) (by decide) rfl rfl rfl (by decide) rfl rfl (Nat.le_of_ble_eq_true rfl) ⟨Nat.le_refl _, Or.inl rfl⟩ dX12_partedNow_2 ⟨rfl, hV0, q4, q5, hn_pm_w1, hn_pm_h1, hn_pm_h2, hn_pm_w3⟩ (fun r1 V2 hp3 => ?_)
  obtain ⟨rfl, hV6, hF7, hg8, hE9⟩ := hp3
  replace hT := hT.trans (pf_call_eq hE9)
  change pm_J X 5 [(0, (3, 90)), (1, (0, a1)), (2, (0, a2))] [] 118 V2
  have hF10 := pm_fs.tr (pm_fs.rf (cs := [112, 115]) (fs := [51]) (V := V0)) hF7 (by decide) (by decide)
  have e11 : V2 90 42 = z0 := by rw [hF7.2 42 (by decide)]; exact ez0
  have e12 : V2 90 43 = z1 := by rw [hF7.2 43 (by decide)]; exact ez1
  have hp13 : pm_w1 V2 := (pm_w1.fr hn_pm_w1 (hF7.2 16 (by decide)) (hF7.2 48 (by decide)) (hF7.2 49 (by decide)) (hF7.1 110 (by decide) (by decide)) (hF7.1 111 (by decide) (by decide)))
  have hp14 : pm_h1 V2 := (pm_h1.fr hn_pm_h1 (hF7.2 16 (by decide)) (hF7.1 97 (by decide) (by decide)))
  have hp15 : pm_h2 V2 := (pm_h2.fr hn_pm_h2 (hF7.2 16 (by decide)) (hF7.2 21 (by decide)) (hF7.1 99 (by decide) (by decide)))
  have hp16 : pm_w3 V2 := (pm_w3.fr hn_pm_w3 (hF7.2 16 (by decide)) (hF7.2 46 (by decide)) (hF7.1 110 (by decide) (by decide)) (hF7.1 111 (by decide) (by decide)))
  refine pm_aload_n hC 0 (by decide) dX12_partedNow_5 rfl ?_
  obtain ⟨y17, e18⟩ : ∃ y, V2 90 51 = y := ⟨_, rfl⟩
  have b19 := hV6.get 90 51 (lo := 0) (hi := 720000000) (by decide) (by decide) rfl
  rw [e18] at b19
  replace hT := hT.trans (pf_let_eq e18)
  refine pm_getf (v := y17) hC 90 fl_X12_362 rfl rfl (by decide) rfl e18 dX12_partedNow_6 ?_
  have hf20 := hg8.1
  rw [(show V2 90 51 = y17 from e18)] at hf20
  refine pm_lstore_n (lv' := [(3, (1, y17)), (0, (3, 90)), (1, (0, a1)), (2, (0, a2))]) hC dX12_partedNow_9 (by decide) rfl ?_
  refine pm_iconst (v := 0) hC dX12_partedNow_10 ?_
  refine pm_istore (lv' := [(5, (0, 0)), (3, (1, y17)), (0, (3, 90)), (1, (0, a1)), (2, (0, a2))]) hC dX12_partedNow_11 (by decide) rfl ?_
  obtain ⟨B34, hB35, hT⟩ := pf_loop hT
  have L37 : ∀ (N39 : Nat) (x21 : Int) (V23 : pm_M), (0 ≤ x21 ∧ x21 ≤ 9) → pm_oq pm_qB V23 → pm_fs [112, 115] [51] V0 V23 → V23 90 42 = z0 → V23 90 43 = z1 → V23 90 51 = y17 → pm_w1 V23 → pm_h1 V23 → pm_h2 V23 → pm_w3 V23 → pm_w2 V23 → F_X12_partedNow a1 a2 V0 = pf_val ((0 : Int), V0) B34 (x21, V23) → (Int.toNat (9 - x21)) = N39 → pm_J X 13 [(0, (3, 90)), (1, (0, a1)), (2, (0, a2)), (3, (1, y17)), (5, (0, x21))] [] 118 V23 := by
    intro N39
    induction N39 using Nat.strongRecOn with
    | _ N39 ih40 =>
    intro x21 V23 b22 hV24 hF25 e26 e27 e28 hp29 hp30 hp31 hp32 hp33 hT hm38
    have hb36 := congrFun hB35 (x21, V23)
    refine pm_iload hC 4 dX12_partedNow_13 rfl ?_
    refine pm_aload_n hC 0 (by decide) dX12_partedNow_15 rfl ?_
    obtain ⟨y41, e42⟩ : ∃ y, V23 90 16 = y := ⟨_, rfl⟩
    have b43 := hV24.get 90 16 (lo := 2) (hi := 9) (by decide) (by decide) rfl
    rw [e42] at b43
    replace hb36 := hb36.trans (pf_let_eq e42)
    refine pm_getf (v := y41) hC 90 fl_X12_220 rfl rfl (by decide) rfl e42 dX12_partedNow_16 ?_
    refine pm_icmp_ge (tgt := 42) hC ⟨by omega, by omega⟩ ⟨by omega, by omega⟩ dX12_partedNow_19 (by decide) (fun c44 => ?_) (fun c44 => ?_)
    · skip
      replace hb36 := hb36.trans (if_pos c44)
      refine pm_aload_n hC 0 (by decide) dX12_partedNow_42 rfl ?_
      refine pm_iload_n hC 2 dX12_partedNow_43 rfl ?_
      have q48 : 1 ≤ V23 90 42 ∧ V23 90 42 ≤ 171 := by (have e : V23 90 42 = z0 := e26); rw [e]; exact ⟨by omega, by omega⟩
      have q49 : 1 ≤ V23 90 43 ∧ V23 90 43 ≤ 171 := by (have e : V23 90 43 = z1 := e27); rw [e]; exact ⟨by omega, by omega⟩
      refine pm_callV (ci := 12) (as := [(0, a2)]) (st := []) hC 90 (fB_X12_weighs a2 ⟨by omega, by omega⟩) lm_X12_380 li_X12_weighs (by decide) (by decide) rfl rfl rfl (by decide) rfl rfl (Nat.le_of_ble_eq_true rfl) ⟨Nat.le_refl _, Or.inl rfl⟩ dX12_partedNow_44 ⟨rfl, hV24, q48, q49, hp29, hp30, hp31, hp32⟩ (fun r45 V46 hp47 => ?_)
      obtain ⟨rfl, hV50, hF51, hg52, hE53⟩ := hp47
      replace hb36 := hb36.trans (pf_call_eq hE53)
      change pm_J X 47 [(0, (3, 90)), (1, (0, a1)), (2, (0, a2)), (3, (1, y17)), (5, (0, x21))] [] 118 V46
      have hF54 := pm_fs.tr hF25 hF51 (by decide) (by decide)
      have e55 : V46 90 42 = z0 := by rw [hF51.2 42 (by decide)]; exact e26
      have e56 : V46 90 43 = z1 := by rw [hF51.2 43 (by decide)]; exact e27
      have e57 : V46 90 16 = y41 := by rw [hF51.2 16 (by decide)]; exact e42
      have hp58 : pm_w1 V46 := (pm_w1.fr hp29 (hF51.2 16 (by decide)) (hF51.2 48 (by decide)) (hF51.2 49 (by decide)) (hF51.1 110 (by decide) (by decide)) (hF51.1 111 (by decide) (by decide)))
      have hp59 : pm_h1 V46 := (pm_h1.fr hp30 (hF51.2 16 (by decide)) (hF51.1 97 (by decide) (by decide)))
      have hp60 : pm_h2 V46 := (pm_h2.fr hp31 (hF51.2 16 (by decide)) (hF51.2 21 (by decide)) (hF51.1 99 (by decide) (by decide)))
      have hp61 : pm_w3 V46 := (pm_w3.fr hp32 (hF51.2 16 (by decide)) (hF51.2 46 (by decide)) (hF51.1 110 (by decide) (by decide)) (hF51.1 111 (by decide) (by decide)))
      refine pm_lconst (x := 0) hC dX12_partedNow_47 rfl ?_
      refine pm_lstore (lv' := [(5, (1, 0)), (0, (3, 90)), (1, (0, a1)), (2, (0, a2)), (3, (1, y17))]) hC dX12_partedNow_48 (by decide) rfl ?_
      refine pm_iconst (v := 0) hC dX12_partedNow_50 ?_
      refine pm_istore (lv' := [(7, (0, 0)), (5, (1, 0)), (0, (3, 90)), (1, (0, a1)), (2, (0, a2)), (3, (1, y17))]) hC dX12_partedNow_51 (by decide) rfl ?_
      obtain ⟨B67, hB68, hb36⟩ := pf_loop hb36
      have L70 : ∀ (N72 : Nat) (x62 : Int) (x64 : Int), (0 ≤ x62 ∧ x62 ≤ 1036800000000000000) → (0 ≤ x64 ∧ x64 ≤ 9) → (x62 ≤ 115200000000000000 * x64) → B34 (x21, V23) = pf_val (.inr ((0 : Int), V0)) B67 (x62, x64) → (Int.toNat (9 - x64)) = N72 → pm_J X 53 [(0, (3, 90)), (1, (0, a1)), (2, (0, a2)), (3, (1, y17)), (5, (1, x62)), (7, (0, x64))] [] 118 V46 := by
        intro N72
        induction N72 using Nat.strongRecOn with
        | _ N72 ih73 =>
        intro x62 x64 b63 b65 b66 hb36 hm71
        have hb69 := congrFun hB68 (x62, x64)
        refine pm_iload hC 5 dX12_partedNow_53 rfl ?_
        refine pm_aload_n hC 0 (by decide) dX12_partedNow_55 rfl ?_
        refine pm_getf (v := y41) hC 90 fl_X12_220 rfl rfl (by decide) rfl e57 dX12_partedNow_56 ?_
        refine pm_icmp_ge (tgt := 112) hC ⟨by omega, by omega⟩ ⟨by omega, by omega⟩ dX12_partedNow_59 (by decide) (fun c74 => ?_) (fun c74 => ?_)
        · skip
          replace hb69 := hb69.trans (if_pos c74)
          refine pm_ldc2 (v := 2) hC 7237 dX12_partedNow_112 (by decide +kernel) ?_
          refine pm_lload_n hC 3 dX12_partedNow_115 rfl ?_
          refine pm_lmul hC dX12_partedNow_116 ?_
          refine pm_aload_n hC 0 (by decide) dX12_partedNow_117 rfl ?_
          obtain ⟨y75, e76⟩ : ∃ y, V46 90 51 = y := ⟨_, rfl⟩
          have b77 := hV50.get 90 51 (lo := 0) (hi := 720000000) (by decide) (by decide) rfl
          rw [e76] at b77
          replace hb69 := hb69.trans (pf_let_eq e76)
          refine pm_getf (v := y75) hC 90 fl_X12_362 rfl rfl (by decide) rfl e76 dX12_partedNow_118 ?_
          refine pm_lmul hC dX12_partedNow_121 ?_
          have b79 : 0 ≤ ((2 * y17) * y75) ∧ ((2 * y17) * y75) ≤ 1036800000000000000 := pm_mulb (by omega) (by omega) (show (2 * y17) ≤ 1440000000 by omega) (show y75 ≤ 720000000 by omega) (by decide)
          obtain ⟨y78, hey78⟩ : ∃ z, ((2 * y17) * y75) = z := ⟨_, rfl⟩
          rw [hey78] at b79 ⊢
          replace hb69 := hb69.trans (pf_let_eq hey78)
          have hf81 := hg52.1
          rw [(show V46 90 51 = y75 from e76)] at hf81
          have hl80 : 1 ≤ y78 := by rw [← hey78]; exact pm_mul1 (by omega) (by omega)
          refine pm_lstore (lv' := [(7, (1, y78)), (0, (3, 90)), (1, (0, a1)), (2, (0, a2)), (3, (1, y17)), (5, (1, x62))]) hC dX12_partedNow_122 (by decide) rfl ?_
          refine pm_lload hC 5 dX12_partedNow_124 rfl ?_
          refine pm_lload hC 0 dX12_partedNow_126 rfl ?_
          refine pm_lcmp hC ⟨by omega, by omega⟩ ⟨by omega, by omega⟩ dX12_partedNow_128 (fun y82 b83 => ?_)
          replace hb69 := hb69.trans (pf_let_eq (pm_cmp_u b83))
          refine pm_if_ne (tgt := 136) hC ⟨by omega, by omega⟩ dX12_partedNow_129 (by decide) (fun c84 => ?_) (fun c84 => ?_)
          · skip
            replace hb69 := hb69.trans (if_pos c84)
            refine pm_iconst (v := 0) hC dX12_partedNow_136 ?_
            refine pm_istore (lv' := [(9, (0, 0)), (7, (1, y78)), (0, (3, 90)), (1, (0, a1)), (2, (0, a2)), (3, (1, y17)), (5, (1, x62))]) hC dX12_partedNow_137 (by decide) rfl ?_
            refine pm_iconst (v := 0) hC dX12_partedNow_139 ?_
            refine pm_istore (lv' := [(10, (0, 0)), (9, (0, 0)), (7, (1, y78)), (0, (3, 90)), (1, (0, a1)), (2, (0, a2)), (3, (1, y17)), (5, (1, x62))]) hC dX12_partedNow_140 (by decide) rfl ?_
            obtain ⟨B91, hB92, hb69⟩ := pf_loop hb69
            have L94 : ∀ (N96 : Nat) (x85 : Int) (x87 : Int) (x89 : Int), ((-9223372036854775808) ≤ x85 ∧ x85 ≤ 9223372036854775807) → ((-2147483648) ≤ x87 ∧ x87 ≤ 2147483647) → (0 ≤ x89 ∧ x89 ≤ 3) → B67 (x62, x64) = pf_val (.inr (.inr ((0 : Int), V0))) B91 (x85, x87, x89) → (Int.toNat (3 - x89)) = N96 → pm_J X 142 [(0, (3, 90)), (1, (0, a1)), (2, (0, a2)), (3, (1, y17)), (5, (1, x85)), (7, (1, y78)), (9, (0, x87)), (10, (0, x89))] [] 118 V46 := by
              intro N96
              induction N96 using Nat.strongRecOn with
              | _ N96 ih97 =>
              intro x85 x87 x89 b86 b88 b90 hb69 hm95
              have hb93 := congrFun hB92 (x85, x87, x89)
              refine pm_iload hC 7 dX12_partedNow_142 rfl ?_
              refine pm_iconst (v := 3) hC dX12_partedNow_144 ?_
              refine pm_icmp_ge (tgt := 183) hC ⟨by omega, by omega⟩ ⟨by decide, by decide⟩ dX12_partedNow_145 (by decide) (fun c98 => ?_) (fun c98 => ?_)
              · skip
                replace hb93 := hb93.trans (if_pos c98)
                refine pm_iload hC 6 dX12_partedNow_183 rfl ?_
                have hb69 := hb69.trans (pf_val_inr hb93)
                have hb36 := hb36.trans (pf_val_inr hb69)
                have hT := hT.trans (pf_val_inr hb36)
                exact pm_iret hC hR pm_nar0 ⟨x87, rfl, ⟨by omega, by omega⟩, hV50, hF54, hT⟩ dX12_partedNow_185
              · skip
                replace hb93 := hb93.trans (if_neg (Int.not_le.mpr c98))
                refine pm_lload hC 4 dX12_partedNow_148 rfl ?_
                refine pm_ldc2 (v := 10) hC 6087 dX12_partedNow_150 (by decide +kernel) ?_
                refine pm_lmul hC dX12_partedNow_153 ?_
                refine pm_wrL hC (fun y99 hw101 b100 => ?_)
                replace hb93 := hb93.trans (pf_let_eq hw101)
                have b100 := And.intro b100.1 b100.2
                refine pm_lstore (lv' := [(5, (1, y99)), (0, (3, 90)), (1, (0, a1)), (2, (0, a2)), (3, (1, y17)), (7, (1, y78)), (9, (0, x87)), (10, (0, x89))]) hC dX12_partedNow_154 (by decide) rfl ?_
                refine pm_bipush (v := 10) hC dX12_partedNow_156 (by decide) ?_
                refine pm_iload hC 6 dX12_partedNow_158 rfl ?_
                refine pm_imul hC dX12_partedNow_160 ?_
                refine pm_wr hC (fun y102 hw104 b103 => ?_)
                replace hb93 := hb93.trans (pf_let_eq hw104)
                have b103 := And.intro b103.1 b103.2
                refine pm_lload hC 0 dX12_partedNow_161 rfl ?_
                refine pm_lload hC 5 dX12_partedNow_163 rfl ?_
                refine pm_ldivT hC ⟨by omega, by omega⟩ ⟨by omega, by omega⟩ (by omega) dX12_partedNow_165 ?_
                refine pm_wrL hC (fun y105 hw107 b106 => ?_)
                replace hb93 := hb93.trans (pf_let_eq hw107)
                have b106 := And.intro b106.1 b106.2
                refine pm_l2i hC dX12_partedNow_166 ?_
                refine pm_wr hC (fun y108 hw110 b109 => ?_)
                replace hb93 := hb93.trans (pf_let_eq hw110)
                have b109 := And.intro b109.1 b109.2
                refine pm_iadd hC dX12_partedNow_167 ?_
                refine pm_wr hC (fun y111 hw113 b112 => ?_)
                replace hb93 := hb93.trans (pf_let_eq hw113)
                have b112 := And.intro b112.1 b112.2
                refine pm_istore (lv' := [(9, (0, y111)), (5, (1, y99)), (0, (3, 90)), (1, (0, a1)), (2, (0, a2)), (3, (1, y17)), (7, (1, y78)), (10, (0, x89))]) hC dX12_partedNow_168 (by decide) rfl ?_
                refine pm_lload hC 1 dX12_partedNow_170 rfl ?_
                refine pm_lload hC 6 dX12_partedNow_172 rfl ?_
                refine pm_lremT hC ⟨by omega, by omega⟩ ⟨by omega, by omega⟩ (by omega) dX12_partedNow_174 ?_
                refine pm_wrL hC (fun y114 hw116 b115 => ?_)
                replace hb93 := hb93.trans (pf_let_eq hw116)
                have b115 := And.intro b115.1 b115.2
                refine pm_lstore (lv' := [(5, (1, y114)), (9, (0, y111)), (0, (3, 90)), (1, (0, a1)), (2, (0, a2)), (3, (1, y17)), (7, (1, y78)), (10, (0, x89))]) hC dX12_partedNow_175 (by decide) rfl ?_
                obtain ⟨x117, ei118⟩ : ∃ y : Int, x89 + 1 = y := ⟨_, rfl⟩
                replace hb93 := hb93.trans (pf_let_eq ei118)
                refine pm_iinc (y := x117) (lv' := [(10, (0, x117)), (5, (1, y114)), (9, (0, y111)), (0, (3, 90)), (1, (0, a1)), (2, (0, a2)), (3, (1, y17)), (7, (1, y78))]) hC 7 dX12_partedNow_177 (by decide) rfl ei118 rfl ?_
                refine pm_goto (tgt := 142) hC dX12_partedNow_180 (by decide) ?_
                refine pm_lvsub [3, 4, 5, 6, 1, 7, 2, 0] (lv' := [(0, (3, 90)), (1, (0, a1)), (2, (0, a2)), (3, (1, y17)), (5, (1, y114)), (7, (1, y78)), (9, (0, y111)), (10, (0, x117))]) rfl ?_
                exact ih97 _ (by omega) y114 y111 x117 ⟨by omega, by omega⟩ ⟨by omega, by omega⟩ ⟨by omega, by omega⟩ (hb69.trans (pf_val_inl hb93)) rfl
            refine pm_lvsub [3, 4, 5, 6, 7, 2, 1, 0] (lv' := [(0, (3, 90)), (1, (0, a1)), (2, (0, a2)), (3, (1, y17)), (5, (1, x62)), (7, (1, y78)), (9, (0, 0)), (10, (0, 0))]) rfl ?_
            exact L94 _ x62 0 0 ⟨by omega, by omega⟩ ⟨by decide, by decide⟩ ⟨by decide, by decide⟩ hb69 rfl
          · skip
            replace hb69 := hb69.trans (if_neg (fun q => q c84))
            refine pm_sipush (v := 1000) hC dX12_partedNow_132 (by decide) ?_
            have hb36 := hb36.trans (pf_val_inr hb69)
            have hT := hT.trans (pf_val_inr hb36)
            exact pm_iret hC hR pm_nar0 ⟨1000, rfl, ⟨by omega, by omega⟩, hV50, hF54, hT⟩ dX12_partedNow_135
        · skip
          replace hb69 := hb69.trans (if_neg (Int.not_le.mpr c74))
          refine pm_aload_n hC 0 (by decide) dX12_partedNow_62 rfl ?_
          have e119 : V46 90 54 = 115 := hV50.one 90 54 (by decide) (by decide) rfl
          refine pm_getf (v := 115) hC 90 fl_X12_85 rfl rfl (by decide) rfl e119 dX12_partedNow_63 ?_
          refine pm_iload hC 5 dX12_partedNow_66 rfl ?_
          obtain ⟨y120, e121⟩ : ∃ y, V46 115 (x64 : Int).toNat = y := ⟨_, rfl⟩
          replace hb69 := hb69.trans (pf_let_eq e121)
          have b122 := hV50.get 115 (x64 : Int).toNat (lo := 0) (hi := 80000000) (t := 0) (by decide) (show _ < 9 by omega) rfl
          rw [e121] at b122
          refine pm_laload (len := 9) (v := y120) hC 115 rfl rfl (by decide) ⟨by omega, by omega⟩ (by decide) e121 dX12_partedNow_68 ?_
          refine pm_aload_n hC 0 (by decide) dX12_partedNow_69 rfl ?_
          obtain ⟨y123, e124⟩ : ∃ y, V46 90 51 = y := ⟨_, rfl⟩
          have b125 := hV50.get 90 51 (lo := 0) (hi := 720000000) (by decide) (by decide) rfl
          rw [e124] at b125
          replace hb69 := hb69.trans (pf_let_eq e124)
          refine pm_getf (v := y123) hC 90 fl_X12_362 rfl rfl (by decide) rfl e124 dX12_partedNow_70 ?_
          refine pm_lmul hC dX12_partedNow_73 ?_
          have b127 : 0 ≤ (y120 * y123) ∧ (y120 * y123) ≤ 57600000000000000 := pm_mulb (by omega) (by omega) (show y120 ≤ 80000000 by omega) (show y123 ≤ 720000000 by omega) (by decide)
          obtain ⟨y126, hey126⟩ : ∃ z, (y120 * y123) = z := ⟨_, rfl⟩
          rw [hey126] at b127 ⊢
          replace hb69 := hb69.trans (pf_let_eq hey126)
          refine pm_aload_n hC 0 (by decide) dX12_partedNow_74 rfl ?_
          have e128 : V46 90 50 = 112 := hV50.one 90 50 (by decide) (by decide) rfl
          refine pm_getf (v := 112) hC 90 fl_X12_76 rfl rfl (by decide) rfl e128 dX12_partedNow_75 ?_
          refine pm_iload hC 5 dX12_partedNow_78 rfl ?_
          obtain ⟨y129, e130⟩ : ∃ y, V46 112 (x64 : Int).toNat = y := ⟨_, rfl⟩
          replace hb69 := hb69.trans (pf_let_eq e130)
          have b131 := hV50.get 112 (x64 : Int).toNat (lo := 0) (hi := 80000000) (t := 0) (by decide) (show _ < 9 by omega) rfl
          rw [e130] at b131
          refine pm_laload (len := 9) (v := y129) hC 112 rfl rfl (by decide) ⟨by omega, by omega⟩ (by decide) e130 dX12_partedNow_80 ?_
          refine pm_lload_n hC 3 dX12_partedNow_81 rfl ?_
          refine pm_lmul hC dX12_partedNow_82 ?_
          have b133 : 0 ≤ (y129 * y17) ∧ (y129 * y17) ≤ 57600000000000000 := pm_mulb (by omega) (by omega) (show y129 ≤ 80000000 by omega) (show y17 ≤ 720000000 by omega) (by decide)
          obtain ⟨y132, hey132⟩ : ∃ z, (y129 * y17) = z := ⟨_, rfl⟩
          rw [hey132] at b133 ⊢
          replace hb69 := hb69.trans (pf_let_eq hey132)
          refine pm_lsub hC dX12_partedNow_83 ?_
          refine pm_lstore (lv' := [(8, (1, (y126 - y132))), (0, (3, 90)), (1, (0, a1)), (2, (0, a2)), (3, (1, y17)), (5, (1, x62)), (7, (0, x64))]) hC dX12_partedNow_84 (by decide) rfl ?_
          refine pm_lload hC 5 dX12_partedNow_86 rfl ?_
          refine pm_lload hC 0 dX12_partedNow_88 rfl ?_
          refine pm_lconst (x := 0) hC dX12_partedNow_90 rfl ?_
          refine pm_lcmp hC ⟨by omega, by omega⟩ ⟨by decide, by decide⟩ dX12_partedNow_91 (fun y134 b135 => ?_)
          replace hb69 := hb69.trans (pf_let_eq (pm_cmp_u b135))
          refine pm_if_ge (tgt := 101) hC ⟨by omega, by omega⟩ dX12_partedNow_92 (by decide) (fun c136 => ?_) (fun c136 => ?_)
          · skip
            replace hb69 := hb69.trans (if_pos c136)
            refine pm_lload hC 0 dX12_partedNow_101 rfl ?_
            refine pm_ladd hC dX12_partedNow_103 ?_
            refine pm_lstore (lv' := [(5, (1, (x62 + (y126 - y132)))), (8, (1, (y126 - y132))), (0, (3, 90)), (1, (0, a1)), (2, (0, a2)), (3, (1, y17)), (7, (0, x64))]) hC dX12_partedNow_104 (by decide) rfl ?_
            obtain ⟨x137, ei138⟩ : ∃ y : Int, x64 + 1 = y := ⟨_, rfl⟩
            replace hb69 := hb69.trans (pf_let_eq ei138)
            refine pm_iinc (y := x137) (lv' := [(7, (0, x137)), (5, (1, (x62 + (y126 - y132)))), (8, (1, (y126 - y132))), (0, (3, 90)), (1, (0, a1)), (2, (0, a2)), (3, (1, y17))]) hC 6 dX12_partedNow_106 (by decide) rfl ei138 rfl ?_
            refine pm_goto (tgt := 53) hC dX12_partedNow_109 (by decide) ?_
            refine pm_lvsub [3, 4, 5, 6, 1, 0] (lv' := [(0, (3, 90)), (1, (0, a1)), (2, (0, a2)), (3, (1, y17)), (5, (1, (x62 + (y126 - y132)))), (7, (0, x137))]) rfl ?_
            exact ih73 _ (by omega) (x62 + (y126 - y132)) x137 ⟨by omega, by omega⟩ ⟨by omega, by omega⟩ (by omega) (hb36.trans (pf_val_inl hb69)) rfl
          · skip
            replace hb69 := hb69.trans (if_neg (Int.not_le.mpr c136))
            refine pm_lload hC 0 dX12_partedNow_95 rfl ?_
            refine pm_lneg hC dX12_partedNow_97 ?_
            refine pm_goto (tgt := 103) hC dX12_partedNow_98 (by decide) ?_
            refine pm_ladd hC dX12_partedNow_103 ?_
            refine pm_lstore (lv' := [(5, (1, (x62 + (-(y126 - y132))))), (8, (1, (y126 - y132))), (0, (3, 90)), (1, (0, a1)), (2, (0, a2)), (3, (1, y17)), (7, (0, x64))]) hC dX12_partedNow_104 (by decide) rfl ?_
            obtain ⟨x139, ei140⟩ : ∃ y : Int, x64 + 1 = y := ⟨_, rfl⟩
            replace hb69 := hb69.trans (pf_let_eq ei140)
            refine pm_iinc (y := x139) (lv' := [(7, (0, x139)), (5, (1, (x62 + (-(y126 - y132))))), (8, (1, (y126 - y132))), (0, (3, 90)), (1, (0, a1)), (2, (0, a2)), (3, (1, y17))]) hC 6 dX12_partedNow_106 (by decide) rfl ei140 rfl ?_
            refine pm_goto (tgt := 53) hC dX12_partedNow_109 (by decide) ?_
            refine pm_lvsub [3, 4, 5, 6, 1, 0] (lv' := [(0, (3, 90)), (1, (0, a1)), (2, (0, a2)), (3, (1, y17)), (5, (1, (x62 + (-(y126 - y132))))), (7, (0, x139))]) rfl ?_
            exact ih73 _ (by omega) (x62 + (-(y126 - y132))) x139 ⟨by omega, by omega⟩ ⟨by omega, by omega⟩ (by omega) (hb36.trans (pf_val_inl hb69)) rfl
      refine pm_lvsub [2, 3, 4, 5, 1, 0] (lv' := [(0, (3, 90)), (1, (0, a1)), (2, (0, a2)), (3, (1, y17)), (5, (1, 0)), (7, (0, 0))]) rfl ?_
      exact L70 _ 0 0 ⟨by decide, by decide⟩ ⟨by decide, by decide⟩ (by omega) hb36 rfl
    · skip
      replace hb36 := hb36.trans (if_neg (Int.not_le.mpr c44))
      refine pm_aload_n hC 0 (by decide) dX12_partedNow_22 rfl ?_
      have e141 : V23 90 54 = 115 := hV24.one 90 54 (by decide) (by decide) rfl
      refine pm_getf (v := 115) hC 90 fl_X12_85 rfl rfl (by decide) rfl e141 dX12_partedNow_23 ?_
      refine pm_iload hC 4 dX12_partedNow_26 rfl ?_
      refine pm_aload_n hC 0 (by decide) dX12_partedNow_28 rfl ?_
      have e142 : V23 90 50 = 112 := hV24.one 90 50 (by decide) (by decide) rfl
      refine pm_getf (v := 112) hC 90 fl_X12_76 rfl rfl (by decide) rfl e142 dX12_partedNow_29 ?_
      refine pm_iload hC 4 dX12_partedNow_32 rfl ?_
      obtain ⟨y143, e144⟩ : ∃ y, V23 112 (x21 : Int).toNat = y := ⟨_, rfl⟩
      replace hb36 := hb36.trans (pf_let_eq e144)
      have b145 := hV24.get 112 (x21 : Int).toNat (lo := 0) (hi := 80000000) (t := 0) (by decide) (show _ < 9 by omega) rfl
      rw [e144] at b145
      refine pm_laload (len := 9) (v := y143) hC 112 rfl rfl (by decide) ⟨by omega, by omega⟩ (by decide) e144 dX12_partedNow_34 ?_
      refine pm_lastore (len := 9) hC 115 rfl rfl (by decide) ⟨by omega, by omega⟩ (by decide) dX12_partedNow_35 ?_
      obtain ⟨x146, ei147⟩ : ∃ y : Int, x21 + 1 = y := ⟨_, rfl⟩
      replace hb36 := hb36.trans (pf_let_eq ei147)
      refine pm_iinc (y := x146) (lv' := [(5, (0, x146)), (0, (3, 90)), (1, (0, a1)), (2, (0, a2)), (3, (1, y17))]) hC 4 dX12_partedNow_36 (by decide) rfl ei147 rfl ?_
      refine pm_goto (tgt := 13) hC dX12_partedNow_39 (by decide) ?_
      refine pm_lvsub [1, 2, 3, 4, 0] (lv' := [(0, (3, 90)), (1, (0, a1)), (2, (0, a2)), (3, (1, y17)), (5, (0, x146))]) rfl ?_
      exact ih40 _ (by omega) x146 (pm_up V23 115 (x21 : Int).toNat y143) ⟨by omega, by omega⟩ (hV24.put 115 (x21 : Int).toNat (x := y143) (lo := 0) (hi := 80000000) rfl ⟨by omega, by omega⟩) (hF25.up 115 (x21 : Int).toNat y143 (by decide) rfl) e26 e27 e28 (pm_w1.fr hp29 rfl rfl rfl rfl rfl) (pm_h1.fr hp30 rfl rfl) (pm_h2.fr hp31 rfl rfl rfl) (pm_w3.fr hp32 rfl rfl rfl rfl) (pm_w2.fr hp33 rfl rfl rfl) (hT.trans (pf_val_inl hb36)) rfl
  refine pm_lvsub [2, 3, 4, 1, 0] (lv' := [(0, (3, 90)), (1, (0, a1)), (2, (0, a2)), (3, (1, y17)), (5, (0, 0))]) rfl ?_
  exact L37 _ 0 V2 ⟨by decide, by decide⟩ hV6 hF10 e11 e12 e18 hp13 hp14 hp15 hp16 hg8 hT rfl
set_option maxHeartbeats 4000000 in
set_option maxRecDepth 100000 in
theorem fB_X12_parted (a1 a2 a3 a4 : Int) (h0 : (-2147483648) ≤ a1 ∧ a1 ≤ 2147483647) (h1 : (-2147483648) ≤ a2 ∧ a2 ≤ 2147483647) (h2 : (-2147483648) ≤ a3 ∧ a3 ≤ 2147483647) (h3 : (-2147483648) ≤ a4 ∧ a4 ≤ 2147483647) : pm_K 5 yX12_parted cX12_parted 5 (some .int) (fun av V => av = [(3, 90), (0, a1), (0, a2), (0, a3), (0, a4)] ∧ pm_oq pm_qB V ∧ pm_h1 V ∧ pm_h2 V) (fun _ V r V' => ∃ y, r = some (0, y) ∧ ((-2147483648) ≤ y ∧ y ≤ 2147483647) ∧ pm_oq pm_qB V' ∧ pm_fs [110, 111, 112, 115] [42, 43, 44, 45, 46, 47, 48, 49, 51] V V' ∧ F_X12_parted a1 a2 a3 a4 V = (y, V')) := by
  refine pm_MT.of (by decide) ⟨Nat.le_refl _, by decide⟩ (fun av V h => by rw [h.1]; exact (by decide : pm_words [(3, 0), (0, 0), (0, 0), (0, 0), (0, 0)] ≤ 5)) ?_
  rintro X av V0 hC - hR ⟨rfl, hV0, hn_pm_h1, hn_pm_h2⟩
  change pm_J X 0 [(0, (3, 90)), (1, (0, a1)), (2, (0, a2)), (3, (0, a3)), (4, (0, a4))] [] 118 V0
  have hT := F_X12_parted_eq a1 a2 a3 a4 V0
  obtain ⟨y1, e2⟩ : ∃ y, V0 90 16 = y := ⟨_, rfl⟩
  have b3 := hV0.get 90 16 (lo := 2) (hi := 9) (by decide) (by decide) rfl
  rw [e2] at b3
  replace hT := hT.trans (pf_let_eq e2)
  refine pm_iload_n hC 1 dX12_parted_0 rfl ?_
  refine pm_callS (as := [(0, a1)]) (st := []) hC (fB_X12_areLaws a1 ⟨by omega, by omega⟩) lm_X12_447 ls_X12_areLaws (by decide) (by decide) rfl rfl (Nat.le_of_ble_eq_true rfl) ⟨Nat.le_refl _, Or.inl rfl⟩ dX12_parted_1 ⟨rfl, hV0⟩ (fun r4 V5 hp6 => ?_)
  obtain ⟨y7, rfl, b8, rfl, hE9⟩ := hp6
  replace hT := hT.trans (pf_call_eq hE9)
  change pm_J X 4 [(0, (3, 90)), (1, (0, a1)), (2, (0, a2)), (3, (0, a3)), (4, (0, a4))] [(0, y7)] 118 V0
  refine pm_if_eq (tgt := 18) hC ⟨by omega, by omega⟩ dX12_parted_4 (by decide) (fun c10 => ?_) (fun c10 => ?_)
  · skip
    replace hT := hT.trans (if_pos c10)
    refine pm_iconst (v := (-1)) hC dX12_parted_18 ?_
    exact pm_iret hC hR pm_nar0 ⟨(-1), rfl, ⟨by omega, by omega⟩, hV0, (pm_fs.rf (cs := [110, 111, 112, 115]) (fs := [42, 43, 44, 45, 46, 47, 48, 49, 51]) (V := V0)), hT⟩ dX12_parted_19
  · skip
    replace hT := hT.trans (if_neg c10)
    refine pm_aload_n hC 0 (by decide) dX12_parted_7 rfl ?_
    refine pm_iload_n hC 2 dX12_parted_8 rfl ?_
    refine pm_iload_n hC 3 dX12_parted_9 rfl ?_
    refine pm_iload hC 4 dX12_parted_10 rfl ?_
    refine pm_callV (ci := 12) (as := [(0, a2), (0, a3), (0, a4)]) (st := []) hC 90 (fB_X12_isTrial a2 a3 a4 ⟨by omega, by omega⟩ ⟨by omega, by omega⟩ ⟨by omega, by omega⟩) lm_X12_373 li_X12_isTrial (by decide) (by decide) rfl rfl rfl (by decide) rfl rfl (Nat.le_of_ble_eq_true rfl) ⟨Nat.le_refl _, Or.inl rfl⟩ dX12_parted_12 ⟨rfl, hV0⟩ (fun r11 V12 hp13 => ?_)
    obtain ⟨y14, rfl, b15, rfl, hE16⟩ := hp13
    replace hT := hT.trans (pf_call_eq hE16)
    change pm_J X 15 [(0, (3, 90)), (1, (0, a1)), (2, (0, a2)), (3, (0, a3)), (4, (0, a4))] [(0, y14)] 118 V0
    refine pm_if_ne (tgt := 20) hC ⟨by omega, by omega⟩ dX12_parted_15 (by decide) (fun c17 => ?_) (fun c17 => ?_)
    · skip
      replace hT := hT.trans (if_pos c17)
      refine pm_aload_n hC 0 (by decide) dX12_parted_20 rfl ?_
      refine pm_iload_n hC 2 dX12_parted_21 rfl ?_
      refine pm_iload_n hC 3 dX12_parted_22 rfl ?_
      refine pm_iload hC 4 dX12_parted_23 rfl ?_
      refine pm_callV (ci := 12) (as := [(0, a2), (0, a3), (0, a4)]) (st := []) hC 90 (fB_X12_works a2 a3 a4 ⟨by omega, by omega⟩ ⟨by omega, by omega⟩ ⟨by omega, by omega⟩ (by omega)) lm_X12_376 li_X12_works (by decide) (by decide) rfl rfl rfl (by decide) rfl rfl (Nat.le_of_ble_eq_true rfl) ⟨Nat.le_refl _, Or.inl rfl⟩ dX12_parted_25 ⟨rfl, hV0, (show (a2) % 10 < V0 90 16 by omega), (show (a2) / 10 % 10 < V0 90 16 by omega), hn_pm_h1⟩ (fun r18 V19 hp20 => ?_)
      obtain ⟨rfl, hV21, hF22, hq23, hq24, hg25, hg26, hE27⟩ := hp20
      replace hT := hT.trans (pf_call_eq hE27)
      change pm_J X 28 [(0, (3, 90)), (1, (0, a1)), (2, (0, a2)), (3, (0, a3)), (4, (0, a4))] [] 118 V19
      have hF28 := pm_fs.tr (pm_fs.rf (cs := [110, 111, 112, 115]) (fs := [42, 43, 44, 45, 46, 47, 48, 49, 51]) (V := V0)) hF22 (by decide) (by decide)
      have e29 : V19 90 16 = y1 := by rw [hF22.2 16 (by decide)]; exact e2
      have hp30 : pm_h1 V19 := (pm_h1.fr hn_pm_h1 (hF22.2 16 (by decide)) (hF22.1 97 (by decide) (by decide)))
      have hp31 : pm_h2 V19 := (pm_h2.fr hn_pm_h2 (hF22.2 16 (by decide)) (hF22.2 21 (by decide)) (hF22.1 99 (by decide) (by decide)))
      obtain ⟨z32, ez33⟩ : ∃ z, V19 90 42 = z := ⟨_, rfl⟩
      rw [ez33] at hq23
      replace hT := hT.trans (pf_let_eq ez33)
      obtain ⟨z34, ez35⟩ : ∃ z, V19 90 43 = z := ⟨_, rfl⟩
      rw [ez35] at hq24
      replace hT := hT.trans (pf_let_eq ez35)
      refine pm_aload_n hC 0 (by decide) dX12_parted_28 rfl ?_
      refine pm_iload_n hC 1 dX12_parted_29 rfl ?_
      refine pm_bipush (v := 10) hC dX12_parted_30 (by decide) ?_
      refine pm_idiv hC ⟨by omega, by omega, by omega⟩ ⟨by decide, by decide, by decide⟩ dX12_parted_32 ?_
      refine pm_iload_n hC 1 dX12_parted_33 rfl ?_
      refine pm_bipush (v := 10) hC dX12_parted_34 (by decide) ?_
      refine pm_irem hC ⟨by omega, by omega, by omega⟩ ⟨by decide, by decide, by decide⟩ dX12_parted_36 ?_
      have q39 : 1 ≤ V19 90 42 ∧ V19 90 42 ≤ 171 := by (have e : V19 90 42 = z32 := ez33); rw [e]; exact ⟨by omega, by omega⟩
      have q40 : 1 ≤ V19 90 43 ∧ V19 90 43 ≤ 171 := by (have e : V19 90 43 = z34 := ez35); rw [e]; exact ⟨by omega, by omega⟩
      refine pm_callV (ci := 12) (as := [(0, (a1 / 10)), (0, (a1 % 10))]) (st := []) hC 90 (fB_X12_partedNow (a1 / 10) (a1 % 10) ⟨by omega, by omega⟩ ⟨by omega, by omega⟩) lm_X12_450 li_X12_partedNow (by decide) (by decide) rfl rfl rfl (by decide) rfl rfl (Nat.le_of_ble_eq_true rfl) ⟨Nat.le_refl _, Or.inl rfl⟩ dX12_parted_37 ⟨rfl, hV21, q39, q40, hg25, hp30, hp31, hg26⟩ (fun r36 V37 hp38 => ?_)
      obtain ⟨y41, rfl, b42, hV43, hF44, hE45⟩ := hp38
      replace hT := hT.trans (pf_call_eq hE45)
      change pm_J X 40 [(0, (3, 90)), (1, (0, a1)), (2, (0, a2)), (3, (0, a3)), (4, (0, a4))] [(0, y41)] 118 V37
      have hF46 := pm_fs.tr hF28 hF44 (by decide) (by decide)
      have e47 : V37 90 16 = y1 := by rw [hF44.2 16 (by decide)]; exact e29
      have e48 : V37 90 42 = z32 := by rw [hF44.2 42 (by decide)]; exact ez33
      have e49 : V37 90 43 = z34 := by rw [hF44.2 43 (by decide)]; exact ez35
      have hp50 : pm_h1 V37 := (pm_h1.fr hp30 (hF44.2 16 (by decide)) (hF44.1 97 (by decide) (by decide)))
      have hp51 : pm_h2 V37 := (pm_h2.fr hp31 (hF44.2 16 (by decide)) (hF44.2 21 (by decide)) (hF44.1 99 (by decide) (by decide)))
      have hp52 : pm_w1 V37 := (pm_w1.fr hg25 (hF44.2 16 (by decide)) (hF44.2 48 (by decide)) (hF44.2 49 (by decide)) (hF44.1 110 (by decide) (by decide)) (hF44.1 111 (by decide) (by decide)))
      have hp53 : pm_w3 V37 := (pm_w3.fr hg26 (hF44.2 16 (by decide)) (hF44.2 46 (by decide)) (hF44.1 110 (by decide) (by decide)) (hF44.1 111 (by decide) (by decide)))
      exact pm_iret hC hR pm_nar0 ⟨y41, rfl, ⟨by omega, by omega⟩, hV43, hF46, hT⟩ dX12_parted_40
    · skip
      replace hT := hT.trans (if_neg (fun q => q c17))
      refine pm_iconst (v := (-1)) hC dX12_parted_18 ?_
      exact pm_iret hC hR pm_nar0 ⟨(-1), rfl, ⟨by omega, by omega⟩, hV0, (pm_fs.rf (cs := [110, 111, 112, 115]) (fs := [42, 43, 44, 45, 46, 47, 48, 49, 51]) (V := V0)), hT⟩ dX12_parted_19
set_option maxHeartbeats 4000000 in
set_option maxRecDepth 100000 in
theorem fB_X12_next (a1 a2 a3 a4 : Int) (h0 : (-2147483648) ≤ a1 ∧ a1 ≤ 2147483647) (h1 : (-2147483648) ≤ a2 ∧ a2 ≤ 2147483647) (h2 : (-2147483648) ≤ a3 ∧ a3 ≤ 2147483647) (h3 : (-2147483648) ≤ a4 ∧ a4 ≤ 2147483647) : pm_K 5 yX12_next cX12_next 11 (some .int) (fun av V => av = [(3, 90), (0, a1), (0, a2), (0, a3), (0, a4)] ∧ pm_oq pm_qB V ∧ pm_h1 V ∧ pm_h2 V) (fun _ V r V' => ∃ y, r = some (0, y) ∧ ((-2147483648) ≤ y ∧ y ≤ 2147483647) ∧ pm_oq pm_qB V' ∧ pm_fs [110, 111, 112, 115] [42, 43, 44, 45, 46, 47, 48, 49, 51] V V' ∧ F_X12_next a1 a2 a3 a4 V = (y, V')) := by
  refine pm_MT.of (by decide) ⟨Nat.le_refl _, by decide⟩ (fun av V h => by rw [h.1]; exact (by decide : pm_words [(3, 0), (0, 0), (0, 0), (0, 0), (0, 0)] ≤ 11)) ?_
  rintro X av V0 hC - hR ⟨rfl, hV0, hn_pm_h1, hn_pm_h2⟩
  change pm_J X 0 [(0, (3, 90)), (1, (0, a1)), (2, (0, a2)), (3, (0, a3)), (4, (0, a4))] [] 118 V0
  have hT := F_X12_next_eq a1 a2 a3 a4 V0
  obtain ⟨y1, e2⟩ : ∃ y, V0 90 16 = y := ⟨_, rfl⟩
  have b3 := hV0.get 90 16 (lo := 2) (hi := 9) (by decide) (by decide) rfl
  rw [e2] at b3
  replace hT := hT.trans (pf_let_eq e2)
  refine pm_iload_n hC 1 dX12_next_0 rfl ?_
  refine pm_callS (as := [(0, a1)]) (st := []) hC (fB_X12_areLaws a1 ⟨by omega, by omega⟩) lm_X12_447 ls_X12_areLaws (by decide) (by decide) rfl rfl (Nat.le_of_ble_eq_true rfl) ⟨Nat.le_refl _, Or.inl rfl⟩ dX12_next_1 ⟨rfl, hV0⟩ (fun r4 V5 hp6 => ?_)
  obtain ⟨y7, rfl, b8, rfl, hE9⟩ := hp6
  replace hT := hT.trans (pf_call_eq hE9)
  change pm_J X 4 [(0, (3, 90)), (1, (0, a1)), (2, (0, a2)), (3, (0, a3)), (4, (0, a4))] [(0, y7)] 118 V0
  refine pm_if_eq (tgt := 35) hC ⟨by omega, by omega⟩ dX12_next_4 (by decide) (fun c10 => ?_) (fun c10 => ?_)
  · skip
    replace hT := hT.trans (if_pos c10)
    refine pm_iconst (v := (-1)) hC dX12_next_35 ?_
    exact pm_iret hC hR pm_nar0 ⟨(-1), rfl, ⟨by omega, by omega⟩, hV0, (pm_fs.rf (cs := [110, 111, 112, 115]) (fs := [42, 43, 44, 45, 46, 47, 48, 49, 51]) (V := V0)), hT⟩ dX12_next_36
  · skip
    replace hT := hT.trans (if_neg c10)
    refine pm_aload_n hC 0 (by decide) dX12_next_7 rfl ?_
    refine pm_iload_n hC 2 dX12_next_8 rfl ?_
    refine pm_callV (ci := 12) (as := [(0, a2)]) (st := []) hC 90 (fB_X12_isPerson a2 ⟨by omega, by omega⟩) lm_X12_302 li_X12_isPerson (by decide) (by decide) rfl rfl rfl (by decide) rfl rfl (Nat.le_of_ble_eq_true rfl) ⟨Nat.le_refl _, Or.inl rfl⟩ dX12_next_9 ⟨rfl, hV0⟩ (fun r11 V12 hp13 => ?_)
    obtain ⟨y14, rfl, b15, rfl, hE16⟩ := hp13
    replace hT := hT.trans (pf_call_eq hE16)
    change pm_J X 12 [(0, (3, 90)), (1, (0, a1)), (2, (0, a2)), (3, (0, a3)), (4, (0, a4))] [(0, y14)] 118 V0
    refine pm_if_eq (tgt := 35) hC ⟨by omega, by omega⟩ dX12_next_12 (by decide) (fun c17 => ?_) (fun c17 => ?_)
    · skip
      replace hT := hT.trans (if_pos c17)
      refine pm_iconst (v := (-1)) hC dX12_next_35 ?_
      exact pm_iret hC hR pm_nar0 ⟨(-1), rfl, ⟨by omega, by omega⟩, hV0, (pm_fs.rf (cs := [110, 111, 112, 115]) (fs := [42, 43, 44, 45, 46, 47, 48, 49, 51]) (V := V0)), hT⟩ dX12_next_36
    · skip
      replace hT := hT.trans (if_neg c17)
      refine pm_iload_n hC 3 dX12_next_15 rfl ?_
      refine pm_iconst (v := 0) hC dX12_next_16 ?_
      refine pm_bipush (v := 9) hC dX12_next_17 (by decide) ?_
      refine pm_callS (as := [(0, a3), (0, 0), (0, 9)]) (st := []) hC (fB_X12_in a3 0 9 ⟨by omega, by omega⟩ ⟨by decide, by decide⟩ ⟨by decide, by decide⟩) lm_X12_98 ls_X12_in (by decide) (by decide) rfl rfl (Nat.le_of_ble_eq_true rfl) ⟨Nat.le_refl _, Or.inl rfl⟩ dX12_next_19 ⟨rfl, hV0⟩ (fun r18 V19 hp20 => ?_)
      obtain ⟨y21, rfl, b22, rfl, hE23⟩ := hp20
      replace hT := hT.trans (pf_call_eq hE23)
      change pm_J X 22 [(0, (3, 90)), (1, (0, a1)), (2, (0, a2)), (3, (0, a3)), (4, (0, a4))] [(0, y21)] 118 V0
      refine pm_if_eq (tgt := 35) hC ⟨by omega, by omega⟩ dX12_next_22 (by decide) (fun c24 => ?_) (fun c24 => ?_)
      · skip
        replace hT := hT.trans (if_pos c24)
        refine pm_iconst (v := (-1)) hC dX12_next_35 ?_
        exact pm_iret hC hR pm_nar0 ⟨(-1), rfl, ⟨by omega, by omega⟩, hV0, (pm_fs.rf (cs := [110, 111, 112, 115]) (fs := [42, 43, 44, 45, 46, 47, 48, 49, 51]) (V := V0)), hT⟩ dX12_next_36
      · skip
        replace hT := hT.trans (if_neg c24)
        refine pm_iload hC 4 dX12_next_25 rfl ?_
        refine pm_iconst (v := 0) hC dX12_next_27 ?_
        refine pm_iconst (v := 1) hC dX12_next_28 ?_
        refine pm_callS (as := [(0, a4), (0, 0), (0, 1)]) (st := []) hC (fB_X12_in a4 0 1 ⟨by omega, by omega⟩ ⟨by decide, by decide⟩ ⟨by decide, by decide⟩) lm_X12_98 ls_X12_in (by decide) (by decide) rfl rfl (Nat.le_of_ble_eq_true rfl) ⟨Nat.le_refl _, Or.inl rfl⟩ dX12_next_29 ⟨rfl, hV0⟩ (fun r25 V26 hp27 => ?_)
        obtain ⟨y28, rfl, b29, rfl, hE30⟩ := hp27
        replace hT := hT.trans (pf_call_eq hE30)
        change pm_J X 32 [(0, (3, 90)), (1, (0, a1)), (2, (0, a2)), (3, (0, a3)), (4, (0, a4))] [(0, y28)] 118 V0
        refine pm_if_ne (tgt := 37) hC ⟨by omega, by omega⟩ dX12_next_32 (by decide) (fun c31 => ?_) (fun c31 => ?_)
        · skip
          replace hT := hT.trans (if_pos c31)
          refine pm_iconst (v := (-1)) hC dX12_next_37 ?_
          refine pm_istore (lv' := [(5, (0, (-1))), (0, (3, 90)), (1, (0, a1)), (2, (0, a2)), (3, (0, a3)), (4, (0, a4))]) hC dX12_next_38 (by decide) rfl ?_
          refine pm_iconst (v := (-1)) hC dX12_next_40 ?_
          refine pm_istore (lv' := [(6, (0, (-1))), (5, (0, (-1))), (0, (3, 90)), (1, (0, a1)), (2, (0, a2)), (3, (0, a3)), (4, (0, a4))]) hC dX12_next_41 (by decide) rfl ?_
          refine pm_iconst (v := 0) hC dX12_next_43 ?_
          refine pm_istore (lv' := [(7, (0, 0)), (6, (0, (-1))), (5, (0, (-1))), (0, (3, 90)), (1, (0, a1)), (2, (0, a2)), (3, (0, a3)), (4, (0, a4))]) hC dX12_next_44 (by decide) rfl ?_
          obtain ⟨B44, hB45, hT⟩ := pf_loop hT
          have L47 : ∀ (N49 : Nat) (x32 : Int) (x34 : Int) (x36 : Int) (V38 : pm_M), ((-1) ≤ x32 ∧ x32 ≤ 899) → ((-2147483648) ≤ x34 ∧ x34 ≤ 2147483647) → (0 ≤ x36 ∧ x36 ≤ 9) → pm_oq pm_qB V38 → pm_fs [110, 111, 112, 115] [42, 43, 44, 45, 46, 47, 48, 49, 51] V0 V38 → V38 90 16 = y1 → pm_h1 V38 → pm_h2 V38 → F_X12_next a1 a2 a3 a4 V0 = pf_val ((0 : Int), V0) B44 (x32, x34, x36, V38) → (Int.toNat (9 - x36)) = N49 → pm_J X 46 [(0, (3, 90)), (1, (0, a1)), (2, (0, a2)), (3, (0, a3)), (4, (0, a4)), (5, (0, x32)), (6, (0, x34)), (7, (0, x36))] [] 118 V38 := by
            intro N49
            induction N49 using Nat.strongRecOn with
            | _ N49 ih50 =>
            intro x32 x34 x36 V38 b33 b35 b37 hV39 hF40 e41 hp42 hp43 hT hm48
            have hb46 := congrFun hB45 (x32, x34, x36, V38)
            refine pm_iload hC 7 dX12_next_46 rfl ?_
            refine pm_aload_n hC 0 (by decide) dX12_next_48 rfl ?_
            refine pm_getf (v := y1) hC 90 fl_X12_220 rfl rfl (by decide) rfl e41 dX12_next_49 ?_
            refine pm_icmp_ge (tgt := 164) hC ⟨by omega, by omega⟩ ⟨by omega, by omega⟩ dX12_next_52 (by decide) (fun c51 => ?_) (fun c51 => ?_)
            · skip
              replace hb46 := hb46.trans (if_pos c51)
              refine pm_iload hC 4 dX12_next_164 rfl ?_
              refine pm_if_ne (tgt := 174) hC ⟨by omega, by omega⟩ dX12_next_166 (by decide) (fun c52 => ?_) (fun c52 => ?_)
              · skip
                replace hb46 := hb46.trans (if_pos c52)
                refine pm_iload hC 6 dX12_next_174 rfl ?_
                have hT := hT.trans (pf_val_inr hb46)
                exact pm_iret hC hR pm_nar0 ⟨x34, rfl, ⟨by omega, by omega⟩, hV39, hF40, hT⟩ dX12_next_176
              · skip
                replace hb46 := hb46.trans (if_neg (fun q => q c52))
                refine pm_iload hC 5 dX12_next_169 rfl ?_
                refine pm_goto (tgt := 176) hC dX12_next_171 (by decide) ?_
                have hT := hT.trans (pf_val_inr hb46)
                exact pm_iret hC hR pm_nar0 ⟨x32, rfl, ⟨by omega, by omega⟩, hV39, hF40, hT⟩ dX12_next_176
            · skip
              replace hb46 := hb46.trans (if_neg (Int.not_le.mpr c51))
              refine pm_iconst (v := 0) hC dX12_next_55 ?_
              refine pm_istore (lv' := [(8, (0, 0)), (0, (3, 90)), (1, (0, a1)), (2, (0, a2)), (3, (0, a3)), (4, (0, a4)), (5, (0, x32)), (6, (0, x34)), (7, (0, x36))]) hC dX12_next_56 (by decide) rfl ?_
              obtain ⟨B65, hB66, hb46⟩ := pf_loop hb46
              have L68 : ∀ (N70 : Nat) (x53 : Int) (x55 : Int) (x57 : Int) (V59 : pm_M), ((-1) ≤ x53 ∧ x53 ≤ 899) → ((-2147483648) ≤ x55 ∧ x55 ≤ 2147483647) → (0 ≤ x57 ∧ x57 ≤ 9) → pm_oq pm_qB V59 → pm_fs [110, 111, 112, 115] [42, 43, 44, 45, 46, 47, 48, 49, 51] V0 V59 → V59 90 16 = y1 → pm_h1 V59 → pm_h2 V59 → B44 (x32, x34, x36, V38) = pf_val (.inr ((0 : Int), V0)) B65 (x53, x55, x57, V59) → (Int.toNat (9 - x57)) = N70 → pm_J X 58 [(0, (3, 90)), (1, (0, a1)), (2, (0, a2)), (3, (0, a3)), (4, (0, a4)), (5, (0, x53)), (6, (0, x55)), (7, (0, x36)), (8, (0, x57))] [] 118 V59 := by
                intro N70
                induction N70 using Nat.strongRecOn with
                | _ N70 ih71 =>
                intro x53 x55 x57 V59 b54 b56 b58 hV60 hF61 e62 hp63 hp64 hb46 hm69
                have hb67 := congrFun hB66 (x53, x55, x57, V59)
                refine pm_iload hC 8 dX12_next_58 rfl ?_
                refine pm_aload_n hC 0 (by decide) dX12_next_60 rfl ?_
                refine pm_getf (v := y1) hC 90 fl_X12_220 rfl rfl (by decide) rfl e62 dX12_next_61 ?_
                refine pm_icmp_ge (tgt := 158) hC ⟨by omega, by omega⟩ ⟨by omega, by omega⟩ dX12_next_64 (by decide) (fun c72 => ?_) (fun c72 => ?_)
                · skip
                  replace hb67 := hb67.trans (if_pos c72)
                  obtain ⟨x73, ei74⟩ : ∃ y : Int, x36 + 1 = y := ⟨_, rfl⟩
                  replace hb67 := hb67.trans (pf_let_eq ei74)
                  refine pm_iinc (y := x73) (lv' := [(7, (0, x73)), (0, (3, 90)), (1, (0, a1)), (2, (0, a2)), (3, (0, a3)), (4, (0, a4)), (5, (0, x53)), (6, (0, x55)), (8, (0, x57))]) hC 7 dX12_next_158 (by decide) rfl ei74 rfl ?_
                  refine pm_goto (tgt := 46) hC dX12_next_161 (by decide) ?_
                  have hb46 := hb46.trans (pf_val_inr hb67)
                  refine pm_lvsub [1, 2, 3, 4, 5, 6, 7, 0] (lv' := [(0, (3, 90)), (1, (0, a1)), (2, (0, a2)), (3, (0, a3)), (4, (0, a4)), (5, (0, x53)), (6, (0, x55)), (7, (0, x73))]) rfl ?_
                  exact ih50 _ (by omega) x53 x55 x73 V59 ⟨by omega, by omega⟩ ⟨by omega, by omega⟩ ⟨by omega, by omega⟩ hV60 hF61 e62 hp63 hp64 (hT.trans (pf_val_inl hb46)) rfl
                · skip
                  replace hb67 := hb67.trans (if_neg (Int.not_le.mpr c72))
                  refine pm_iconst (v := 0) hC dX12_next_67 ?_
                  refine pm_istore (lv' := [(9, (0, 0)), (0, (3, 90)), (1, (0, a1)), (2, (0, a2)), (3, (0, a3)), (4, (0, a4)), (5, (0, x53)), (6, (0, x55)), (7, (0, x36)), (8, (0, x57))]) hC dX12_next_68 (by decide) rfl ?_
                  obtain ⟨B87, hB88, hb67⟩ := pf_loop hb67
                  have L90 : ∀ (N92 : Nat) (x75 : Int) (x77 : Int) (x79 : Int) (V81 : pm_M), ((-1) ≤ x75 ∧ x75 ≤ 899) → ((-2147483648) ≤ x77 ∧ x77 ≤ 2147483647) → (0 ≤ x79 ∧ x79 ≤ 10) → pm_oq pm_qB V81 → pm_fs [110, 111, 112, 115] [42, 43, 44, 45, 46, 47, 48, 49, 51] V0 V81 → V81 90 16 = y1 → pm_h1 V81 → pm_h2 V81 → B65 (x53, x55, x57, V59) = pf_val (.inr (.inr ((0 : Int), V0))) B87 (x75, x77, x79, V81) → (Int.toNat (10 - x79)) = N92 → pm_J X 70 [(0, (3, 90)), (1, (0, a1)), (2, (0, a2)), (3, (0, a3)), (4, (0, a4)), (5, (0, x75)), (6, (0, x77)), (7, (0, x36)), (8, (0, x57)), (9, (0, x79))] [] 118 V81 := by
                    intro N92
                    induction N92 using Nat.strongRecOn with
                    | _ N92 ih93 =>
                    intro x75 x77 x79 V81 b76 b78 b80 hV82 hF83 e84 hp85 hp86 hb67 hm91
                    have hb89 := congrFun hB88 (x75, x77, x79, V81)
                    refine pm_iload hC 9 dX12_next_70 rfl ?_
                    refine pm_bipush (v := 10) hC dX12_next_72 (by decide) ?_
                    refine pm_icmp_ge (tgt := 152) hC ⟨by omega, by omega⟩ ⟨by decide, by decide⟩ dX12_next_74 (by decide) (fun c94 => ?_) (fun c94 => ?_)
                    · skip
                      replace hb89 := hb89.trans (if_pos c94)
                      obtain ⟨x95, ei96⟩ : ∃ y : Int, x57 + 1 = y := ⟨_, rfl⟩
                      replace hb89 := hb89.trans (pf_let_eq ei96)
                      refine pm_iinc (y := x95) (lv' := [(8, (0, x95)), (0, (3, 90)), (1, (0, a1)), (2, (0, a2)), (3, (0, a3)), (4, (0, a4)), (5, (0, x75)), (6, (0, x77)), (7, (0, x36)), (9, (0, x79))]) hC 8 dX12_next_152 (by decide) rfl ei96 rfl ?_
                      refine pm_goto (tgt := 58) hC dX12_next_155 (by decide) ?_
                      have hb67 := hb67.trans (pf_val_inr hb89)
                      refine pm_lvsub [1, 2, 3, 4, 5, 6, 7, 8, 0] (lv' := [(0, (3, 90)), (1, (0, a1)), (2, (0, a2)), (3, (0, a3)), (4, (0, a4)), (5, (0, x75)), (6, (0, x77)), (7, (0, x36)), (8, (0, x95))]) rfl ?_
                      exact ih71 _ (by omega) x75 x77 x95 V81 ⟨by omega, by omega⟩ ⟨by omega, by omega⟩ ⟨by omega, by omega⟩ hV82 hF83 e84 hp85 hp86 (hb46.trans (pf_val_inl hb67)) rfl
                    · skip
                      replace hb89 := hb89.trans (if_neg (Int.not_le.mpr c94))
                      refine pm_aload_n hC 0 (by decide) dX12_next_77 rfl ?_
                      refine pm_bipush (v := 100) hC dX12_next_78 (by decide) ?_
                      refine pm_iload_n hC 2 dX12_next_80 rfl ?_
                      refine pm_imul hC dX12_next_81 ?_
                      refine pm_bipush (v := 10) hC dX12_next_82 (by decide) ?_
                      refine pm_iload hC 7 dX12_next_84 rfl ?_
                      refine pm_imul hC dX12_next_86 ?_
                      refine pm_iadd hC dX12_next_87 ?_
                      refine pm_iload hC 8 dX12_next_88 rfl ?_
                      refine pm_iadd hC dX12_next_90 ?_
                      refine pm_bipush (v := 10) hC dX12_next_91 (by decide) ?_
                      refine pm_iload hC 9 dX12_next_93 rfl ?_
                      refine pm_imul hC dX12_next_95 ?_
                      refine pm_iload_n hC 3 dX12_next_96 rfl ?_
                      refine pm_iadd hC dX12_next_97 ?_
                      refine pm_iconst (v := 0) hC dX12_next_98 ?_
                      refine pm_callV (ci := 12) (as := [(0, (((100 * a2) + (10 * x36)) + x57)), (0, ((10 * x79) + a3)), (0, 0)]) (st := []) hC 90 (fB_X12_works (((100 * a2) + (10 * x36)) + x57) ((10 * x79) + a3) 0 ⟨by omega, by omega⟩ ⟨by omega, by omega⟩ ⟨by decide, by decide⟩ (by omega)) lm_X12_376 li_X12_works (by decide) (by decide) rfl rfl rfl (by decide) rfl rfl (Nat.le_of_ble_eq_true rfl) ⟨Nat.le_refl _, Or.inl rfl⟩ dX12_next_99 ⟨rfl, hV82, (show ((((100 * a2) + (10 * x36)) + x57)) % 10 < V81 90 16 by omega), (show ((((100 * a2) + (10 * x36)) + x57)) / 10 % 10 < V81 90 16 by omega), hp85⟩ (fun r97 V98 hp99 => ?_)
                      obtain ⟨rfl, hV100, hF101, hq102, hq103, hg104, hg105, hE106⟩ := hp99
                      replace hb89 := hb89.trans (pf_call_eq hE106)
                      change pm_J X 102 [(0, (3, 90)), (1, (0, a1)), (2, (0, a2)), (3, (0, a3)), (4, (0, a4)), (5, (0, x75)), (6, (0, x77)), (7, (0, x36)), (8, (0, x57)), (9, (0, x79))] [] 118 V98
                      have hF107 := pm_fs.tr hF83 hF101 (by decide) (by decide)
                      have e108 : V98 90 16 = y1 := by rw [hF101.2 16 (by decide)]; exact e84
                      have hp109 : pm_h1 V98 := (pm_h1.fr hp85 (hF101.2 16 (by decide)) (hF101.1 97 (by decide) (by decide)))
                      have hp110 : pm_h2 V98 := (pm_h2.fr hp86 (hF101.2 16 (by decide)) (hF101.2 21 (by decide)) (hF101.1 99 (by decide) (by decide)))
                      obtain ⟨z111, ez112⟩ : ∃ z, V98 90 42 = z := ⟨_, rfl⟩
                      rw [ez112] at hq102
                      replace hb89 := hb89.trans (pf_let_eq ez112)
                      obtain ⟨z113, ez114⟩ : ∃ z, V98 90 43 = z := ⟨_, rfl⟩
                      rw [ez114] at hq103
                      replace hb89 := hb89.trans (pf_let_eq ez114)
                      refine pm_aload_n hC 0 (by decide) dX12_next_102 rfl ?_
                      refine pm_iload_n hC 1 dX12_next_103 rfl ?_
                      refine pm_bipush (v := 10) hC dX12_next_104 (by decide) ?_
                      refine pm_idiv hC ⟨by omega, by omega, by omega⟩ ⟨by decide, by decide, by decide⟩ dX12_next_106 ?_
                      refine pm_iload_n hC 1 dX12_next_107 rfl ?_
                      refine pm_bipush (v := 10) hC dX12_next_108 (by decide) ?_
                      refine pm_irem hC ⟨by omega, by omega, by omega⟩ ⟨by decide, by decide, by decide⟩ dX12_next_110 ?_
                      have q118 : 1 ≤ V98 90 42 ∧ V98 90 42 ≤ 171 := by (have e : V98 90 42 = z111 := ez112); rw [e]; exact ⟨by omega, by omega⟩
                      have q119 : 1 ≤ V98 90 43 ∧ V98 90 43 ≤ 171 := by (have e : V98 90 43 = z113 := ez114); rw [e]; exact ⟨by omega, by omega⟩
                      refine pm_callV (ci := 12) (as := [(0, (a1 / 10)), (0, (a1 % 10))]) (st := []) hC 90 (fB_X12_partedNow (a1 / 10) (a1 % 10) ⟨by omega, by omega⟩ ⟨by omega, by omega⟩) lm_X12_450 li_X12_partedNow (by decide) (by decide) rfl rfl rfl (by decide) rfl rfl (Nat.le_of_ble_eq_true rfl) ⟨Nat.le_refl _, Or.inl rfl⟩ dX12_next_111 ⟨rfl, hV100, q118, q119, hg104, hp109, hp110, hg105⟩ (fun r115 V116 hp117 => ?_)
                      obtain ⟨y120, rfl, b121, hV122, hF123, hE124⟩ := hp117
                      replace hb89 := hb89.trans (pf_call_eq hE124)
                      change pm_J X 114 [(0, (3, 90)), (1, (0, a1)), (2, (0, a2)), (3, (0, a3)), (4, (0, a4)), (5, (0, x75)), (6, (0, x77)), (7, (0, x36)), (8, (0, x57)), (9, (0, x79))] [(0, y120)] 118 V116
                      have hF125 := pm_fs.tr hF107 hF123 (by decide) (by decide)
                      have e126 : V116 90 16 = y1 := by rw [hF123.2 16 (by decide)]; exact e108
                      have e127 : V116 90 42 = z111 := by rw [hF123.2 42 (by decide)]; exact ez112
                      have e128 : V116 90 43 = z113 := by rw [hF123.2 43 (by decide)]; exact ez114
                      have hp129 : pm_h1 V116 := (pm_h1.fr hp109 (hF123.2 16 (by decide)) (hF123.1 97 (by decide) (by decide)))
                      have hp130 : pm_h2 V116 := (pm_h2.fr hp110 (hF123.2 16 (by decide)) (hF123.2 21 (by decide)) (hF123.1 99 (by decide) (by decide)))
                      have hp131 : pm_w1 V116 := (pm_w1.fr hg104 (hF123.2 16 (by decide)) (hF123.2 48 (by decide)) (hF123.2 49 (by decide)) (hF123.1 110 (by decide) (by decide)) (hF123.1 111 (by decide) (by decide)))
                      have hp132 : pm_w3 V116 := (pm_w3.fr hg105 (hF123.2 16 (by decide)) (hF123.2 46 (by decide)) (hF123.1 110 (by decide) (by decide)) (hF123.1 111 (by decide) (by decide)))
                      refine pm_istore (lv' := [(10, (0, y120)), (0, (3, 90)), (1, (0, a1)), (2, (0, a2)), (3, (0, a3)), (4, (0, a4)), (5, (0, x75)), (6, (0, x77)), (7, (0, x36)), (8, (0, x57)), (9, (0, x79))]) hC dX12_next_114 (by decide) rfl ?_
                      refine pm_iload hC 0 dX12_next_116 rfl ?_
                      refine pm_iload hC 7 dX12_next_118 rfl ?_
                      refine pm_icmp_gt (tgt := 126) hC ⟨by omega, by omega⟩ ⟨by omega, by omega⟩ dX12_next_120 (by decide) (fun c133 => ?_) (fun c133 => ?_)
                      · skip
                        replace hb89 := hb89.trans (if_pos c133)
                        refine pm_iload hC 0 dX12_next_126 rfl ?_
                        refine pm_istore (lv' := [(6, (0, y120)), (10, (0, y120)), (0, (3, 90)), (1, (0, a1)), (2, (0, a2)), (3, (0, a3)), (4, (0, a4)), (5, (0, x75)), (7, (0, x36)), (8, (0, x57)), (9, (0, x79))]) hC dX12_next_128 (by decide) rfl ?_
                        refine pm_bipush (v := 100) hC dX12_next_130 (by decide) ?_
                        refine pm_iload hC 8 dX12_next_132 rfl ?_
                        refine pm_imul hC dX12_next_134 ?_
                        refine pm_bipush (v := 10) hC dX12_next_135 (by decide) ?_
                        refine pm_iload hC 9 dX12_next_137 rfl ?_
                        refine pm_imul hC dX12_next_139 ?_
                        refine pm_iadd hC dX12_next_140 ?_
                        refine pm_iload hC 10 dX12_next_141 rfl ?_
                        refine pm_iadd hC dX12_next_143 ?_
                        refine pm_istore (lv' := [(5, (0, (((100 * x36) + (10 * x57)) + x79))), (6, (0, y120)), (10, (0, y120)), (0, (3, 90)), (1, (0, a1)), (2, (0, a2)), (3, (0, a3)), (4, (0, a4)), (7, (0, x36)), (8, (0, x57)), (9, (0, x79))]) hC dX12_next_144 (by decide) rfl ?_
                        obtain ⟨x134, ei135⟩ : ∃ y : Int, x79 + 1 = y := ⟨_, rfl⟩
                        replace hb89 := hb89.trans (pf_let_eq ei135)
                        refine pm_iinc (y := x134) (lv' := [(9, (0, x134)), (5, (0, (((100 * x36) + (10 * x57)) + x79))), (6, (0, y120)), (10, (0, y120)), (0, (3, 90)), (1, (0, a1)), (2, (0, a2)), (3, (0, a3)), (4, (0, a4)), (7, (0, x36)), (8, (0, x57))]) hC 10 dX12_next_146 (by decide) rfl ei135 rfl ?_
                        refine pm_goto (tgt := 70) hC dX12_next_149 (by decide) ?_
                        refine pm_lvsub [4, 5, 6, 7, 8, 1, 2, 9, 10, 0] (lv' := [(0, (3, 90)), (1, (0, a1)), (2, (0, a2)), (3, (0, a3)), (4, (0, a4)), (5, (0, (((100 * x36) + (10 * x57)) + x79))), (6, (0, y120)), (7, (0, x36)), (8, (0, x57)), (9, (0, x134))]) rfl ?_
                        exact ih93 _ (by omega) (((100 * x36) + (10 * x57)) + x79) y120 x134 V116 ⟨by omega, by omega⟩ ⟨by omega, by omega⟩ ⟨by omega, by omega⟩ hV122 hF125 e126 hp129 hp130 (hb67.trans (pf_val_inl hb89)) rfl
                      · skip
                        replace hb89 := hb89.trans (if_neg (Int.not_lt.mpr c133))
                        refine pm_goto (tgt := 146) hC dX12_next_123 (by decide) ?_
                        obtain ⟨x136, ei137⟩ : ∃ y : Int, x79 + 1 = y := ⟨_, rfl⟩
                        replace hb89 := hb89.trans (pf_let_eq ei137)
                        refine pm_iinc (y := x136) (lv' := [(9, (0, x136)), (10, (0, y120)), (0, (3, 90)), (1, (0, a1)), (2, (0, a2)), (3, (0, a3)), (4, (0, a4)), (5, (0, x75)), (6, (0, x77)), (7, (0, x36)), (8, (0, x57))]) hC 10 dX12_next_146 (by decide) rfl ei137 rfl ?_
                        refine pm_goto (tgt := 70) hC dX12_next_149 (by decide) ?_
                        refine pm_lvsub [2, 3, 4, 5, 6, 7, 8, 9, 10, 0] (lv' := [(0, (3, 90)), (1, (0, a1)), (2, (0, a2)), (3, (0, a3)), (4, (0, a4)), (5, (0, x75)), (6, (0, x77)), (7, (0, x36)), (8, (0, x57)), (9, (0, x136))]) rfl ?_
                        exact ih93 _ (by omega) x75 x77 x136 V116 ⟨by omega, by omega⟩ ⟨by omega, by omega⟩ ⟨by omega, by omega⟩ hV122 hF125 e126 hp129 hp130 (hb67.trans (pf_val_inl hb89)) rfl
                  refine pm_lvsub [1, 2, 3, 4, 5, 6, 7, 8, 9, 0] (lv' := [(0, (3, 90)), (1, (0, a1)), (2, (0, a2)), (3, (0, a3)), (4, (0, a4)), (5, (0, x53)), (6, (0, x55)), (7, (0, x36)), (8, (0, x57)), (9, (0, 0))]) rfl ?_
                  exact L90 _ x53 x55 0 V59 ⟨by omega, by omega⟩ ⟨by omega, by omega⟩ ⟨by decide, by decide⟩ hV60 hF61 e62 hp63 hp64 hb67 rfl
              refine pm_lvsub [1, 2, 3, 4, 5, 6, 7, 8, 0] (lv' := [(0, (3, 90)), (1, (0, a1)), (2, (0, a2)), (3, (0, a3)), (4, (0, a4)), (5, (0, x32)), (6, (0, x34)), (7, (0, x36)), (8, (0, 0))]) rfl ?_
              exact L68 _ x32 x34 0 V38 ⟨by omega, by omega⟩ ⟨by omega, by omega⟩ ⟨by decide, by decide⟩ hV39 hF40 e41 hp42 hp43 hb46 rfl
          refine pm_lvsub [3, 4, 5, 6, 7, 2, 1, 0] (lv' := [(0, (3, 90)), (1, (0, a1)), (2, (0, a2)), (3, (0, a3)), (4, (0, a4)), (5, (0, (-1))), (6, (0, (-1))), (7, (0, 0))]) rfl ?_
          exact L47 _ (-1) (-1) 0 V0 ⟨by decide, by decide⟩ ⟨by decide, by decide⟩ ⟨by decide, by decide⟩ hV0 (pm_fs.rf (cs := [110, 111, 112, 115]) (fs := [42, 43, 44, 45, 46, 47, 48, 49, 51]) (V := V0)) e2 hn_pm_h1 hn_pm_h2 hT rfl
        · skip
          replace hT := hT.trans (if_neg (fun q => q c31))
          refine pm_iconst (v := (-1)) hC dX12_next_35 ?_
          exact pm_iret hC hR pm_nar0 ⟨(-1), rfl, ⟨by omega, by omega⟩, hV0, (pm_fs.rf (cs := [110, 111, 112, 115]) (fs := [42, 43, 44, 45, 46, 47, 48, 49, 51]) (V := V0)), hT⟩ dX12_next_36
set_option maxHeartbeats 4000000 in
set_option maxRecDepth 100000 in
theorem fB_X12_knowing (a1 a2 a3 a4 : Int) (h0 : (-2147483648) ≤ a1 ∧ a1 ≤ 2147483647) (h1 : (-2147483648) ≤ a2 ∧ a2 ≤ 2147483647) (h2 : (-2147483648) ≤ a3 ∧ a3 ≤ 2147483647) (h3 : (-2147483648) ≤ a4 ∧ a4 ≤ 2147483647) : pm_K 5 yX12_knowing cX12_knowing 6 (some .int) (fun av V => av = [(3, 90), (0, a1), (0, a2), (0, a3), (0, a4)] ∧ pm_oq pm_qB V ∧ pm_h1 V ∧ pm_h2 V) (fun _ V r V' => ∃ y, r = some (0, y) ∧ ((-1) ≤ y ∧ y ≤ 1) ∧ pm_oq pm_qB V' ∧ pm_fs [110, 111, 112] [42, 43, 44, 45, 46, 47, 48, 49, 51] V V' ∧ F_X12_knowing a1 a2 a3 a4 V = (y, V')) := by
  refine pm_MT.of (by decide) ⟨Nat.le_refl _, by decide⟩ (fun av V h => by rw [h.1]; exact (by decide : pm_words [(3, 0), (0, 0), (0, 0), (0, 0), (0, 0)] ≤ 6)) ?_
  rintro X av V0 hC - hR ⟨rfl, hV0, hn_pm_h1, hn_pm_h2⟩
  change pm_J X 0 [(0, (3, 90)), (1, (0, a1)), (2, (0, a2)), (3, (0, a3)), (4, (0, a4))] [] 118 V0
  have hT := F_X12_knowing_eq a1 a2 a3 a4 V0
  obtain ⟨y1, e2⟩ : ∃ y, V0 90 16 = y := ⟨_, rfl⟩
  have b3 := hV0.get 90 16 (lo := 2) (hi := 9) (by decide) (by decide) rfl
  rw [e2] at b3
  replace hT := hT.trans (pf_let_eq e2)
  refine pm_aload_n hC 0 (by decide) dX12_knowing_0 rfl ?_
  refine pm_iload_n hC 1 dX12_knowing_1 rfl ?_
  refine pm_iload_n hC 2 dX12_knowing_2 rfl ?_
  refine pm_iload_n hC 3 dX12_knowing_3 rfl ?_
  refine pm_iload hC 4 dX12_knowing_4 rfl ?_
  refine pm_callV (ci := 12) (as := [(0, a1), (0, a2), (0, a3), (0, a4)]) (st := []) hC 90 (fB_X12_weighsIf a1 a2 a3 a4 ⟨by omega, by omega⟩ ⟨by omega, by omega⟩ ⟨by omega, by omega⟩ ⟨by omega, by omega⟩) lm_X12_383 li_X12_weighsIf (by decide) (by decide) rfl rfl rfl (by decide) rfl rfl (Nat.le_of_ble_eq_true rfl) ⟨Nat.le_refl _, Or.inl rfl⟩ dX12_knowing_6 ⟨rfl, hV0, hn_pm_h1, hn_pm_h2⟩ (fun r4 V5 hp6 => ?_)
  obtain ⟨y7, rfl, b8, hV9, hF10, hxp11, hxp12, hE13⟩ := hp6
  replace hT := hT.trans (pf_call_eq hE13)
  change pm_J X 9 [(0, (3, 90)), (1, (0, a1)), (2, (0, a2)), (3, (0, a3)), (4, (0, a4))] [(0, y7)] 118 V5
  have hF14 := pm_fs.tr (pm_fs.rf (cs := [110, 111, 112]) (fs := [42, 43, 44, 45, 46, 47, 48, 49, 51]) (V := V0)) hF10 (by decide) (by decide)
  have e15 : V5 90 16 = y1 := by rw [hF10.2 16 (by decide)]; exact e2
  have hp16 : pm_h1 V5 := (pm_h1.fr hn_pm_h1 (hF10.2 16 (by decide)) (hF10.1 97 (by decide) (by decide)))
  have hp17 : pm_h2 V5 := (pm_h2.fr hn_pm_h2 (hF10.2 16 (by decide)) (hF10.2 21 (by decide)) (hF10.1 99 (by decide) (by decide)))
  refine pm_if_ne (tgt := 14) hC ⟨by omega, by omega⟩ dX12_knowing_9 (by decide) (fun c18 => ?_) (fun c18 => ?_)
  · skip
    replace hT := hT.trans (if_pos c18)
    refine pm_aload_n hC 0 (by decide) dX12_knowing_14 rfl ?_
    refine pm_callV (ci := 12) (as := []) (st := []) hC 90 fB_X12_likeliest lm_X12_393 li_X12_likeliest (by decide) (by decide) rfl rfl rfl (by decide) rfl rfl (Nat.le_of_ble_eq_true rfl) ⟨Nat.le_refl _, Or.inl rfl⟩ dX12_knowing_15 ⟨rfl, hV9⟩ (fun r19 V20 hp21 => ?_)
    obtain ⟨y22, rfl, b23, rfl, hE24⟩ := hp21
    replace hT := hT.trans (pf_call_eq hE24)
    change pm_J X 18 [(0, (3, 90)), (1, (0, a1)), (2, (0, a2)), (3, (0, a3)), (4, (0, a4))] [(0, y22)] 118 V5
    refine pm_istore (lv' := [(5, (0, y22)), (0, (3, 90)), (1, (0, a1)), (2, (0, a2)), (3, (0, a3)), (4, (0, a4))]) hC dX12_knowing_18 (by decide) rfl ?_
    refine pm_aload_n hC 1 (by decide) dX12_knowing_20 rfl ?_
    refine pm_iconst (v := 0) hC dX12_knowing_21 ?_
    refine pm_putf hC 90 fl_X12_323 rfl rfl rfl (by decide) rfl trivial dX12_knowing_22 ?_
    refine pm_aload_n hC 1 (by decide) dX12_knowing_25 rfl ?_
    refine pm_iload_n hC 2 dX12_knowing_26 rfl ?_
    obtain ⟨y28, e29⟩ : ∃ y, V5 90 42 = y := ⟨_, rfl⟩
    have b30 := hV9.get 90 42 (lo := 0) (hi := 171) (by decide) (by decide) rfl
    rw [e29] at b30
    replace hT := hT.trans (pf_let_eq e29)
    have q31 : 1 ≤ (pm_up V5 90 47 0) 90 42 ∧ (pm_up V5 90 47 0) 90 42 ≤ 171 := by (have e : (pm_up V5 90 47 0) 90 42 = y28 := e29); rw [e]; exact ⟨by omega, by omega⟩
    obtain ⟨y32, e33⟩ : ∃ y, V5 90 43 = y := ⟨_, rfl⟩
    have b34 := hV9.get 90 43 (lo := 0) (hi := 171) (by decide) (by decide) rfl
    rw [e33] at b34
    replace hT := hT.trans (pf_let_eq e33)
    have q35 : 1 ≤ (pm_up V5 90 47 0) 90 43 ∧ (pm_up V5 90 47 0) 90 43 ≤ 171 := by (have e : (pm_up V5 90 47 0) 90 43 = y32 := e33); rw [e]; exact ⟨by omega, by omega⟩
    refine pm_callV (ci := 12) (as := [(0, a1)]) (st := []) hC 90 (fB_X12_weighs a1 ⟨by omega, by omega⟩) lm_X12_380 li_X12_weighs (by decide) (by decide) rfl rfl rfl (by decide) rfl rfl (Nat.le_of_ble_eq_true rfl) ⟨Nat.le_refl _, Or.inl rfl⟩ dX12_knowing_27 ⟨rfl, (hV9.put 90 47 (x := 0) (lo := 0) (hi := 16) rfl ⟨by decide, by decide⟩), q31, q35, (pm_w1.fr (hxp11 (by omega)).1 rfl rfl rfl rfl rfl), (pm_h1.fr hp16 rfl rfl), (pm_h2.fr hp17 rfl rfl rfl), (pm_w3.fr (hxp11 (by omega)).2.2 rfl rfl rfl rfl)⟩ (fun r25 V26 hp27 => ?_)
    obtain ⟨rfl, hV36, hF37, hg38, hE39⟩ := hp27
    replace hT := hT.trans (pf_call_eq hE39)
    change pm_J X 30 [(5, (0, y22)), (0, (3, 90)), (1, (0, a1)), (2, (0, a2)), (3, (0, a3)), (4, (0, a4))] [] 118 V26
    have hF40 := pm_fs.tr (hF14.upf 47 0 rfl) hF37 (by decide) (by decide)
    have e41 : V26 90 16 = y1 := by rw [hF37.2 16 (by decide)]; exact e15
    have e42 : V26 90 42 = y28 := by rw [hF37.2 42 (by decide)]; exact e29
    have e43 : V26 90 43 = y32 := by rw [hF37.2 43 (by decide)]; exact e33
    have e44 : V26 90 47 = 0 := by rw [hF37.2 47 (by decide)]; rfl
    have hp45 : pm_h1 V26 := (pm_h1.fr (pm_h1.fr hp16 rfl rfl) (hF37.2 16 (by decide)) (hF37.1 97 (by decide) (by decide)))
    have hp46 : pm_h2 V26 := (pm_h2.fr (pm_h2.fr hp17 rfl rfl rfl) (hF37.2 16 (by decide)) (hF37.2 21 (by decide)) (hF37.1 99 (by decide) (by decide)))
    have hp47 : pm_w1 V26 := (pm_w1.fr (pm_w1.fr (hxp11 (by omega)).1 rfl rfl rfl rfl rfl) (hF37.2 16 (by decide)) (hF37.2 48 (by decide)) (hF37.2 49 (by decide)) (hF37.1 110 (by decide) (by decide)) (hF37.1 111 (by decide) (by decide)))
    have hp48 : pm_w3 V26 := (pm_w3.fr (pm_w3.fr (hxp11 (by omega)).2.2 rfl rfl rfl rfl) (hF37.2 16 (by decide)) (hF37.2 46 (by decide)) (hF37.1 110 (by decide) (by decide)) (hF37.1 111 (by decide) (by decide)))
    refine pm_aload_n hC 1 (by decide) dX12_knowing_30 rfl ?_
    refine pm_callV (ci := 12) (as := []) (st := []) hC 90 fB_X12_likeliest lm_X12_393 li_X12_likeliest (by decide) (by decide) rfl rfl rfl (by decide) rfl rfl (Nat.le_of_ble_eq_true rfl) ⟨Nat.le_refl _, Or.inl rfl⟩ dX12_knowing_31 ⟨rfl, hV36⟩ (fun r49 V50 hp51 => ?_)
    obtain ⟨y52, rfl, b53, rfl, hE54⟩ := hp51
    replace hT := hT.trans (pf_call_eq hE54)
    change pm_J X 34 [(5, (0, y22)), (0, (3, 90)), (1, (0, a1)), (2, (0, a2)), (3, (0, a3)), (4, (0, a4))] [(0, y52)] 118 V26
    refine pm_iload hC 0 dX12_knowing_34 rfl ?_
    refine pm_icmp_ne (tgt := 43) hC ⟨by omega, by omega⟩ ⟨by omega, by omega⟩ dX12_knowing_36 (by decide) (fun c55 => ?_) (fun c55 => ?_)
    · skip
      replace hT := hT.trans (if_pos c55)
      refine pm_iconst (v := 0) hC dX12_knowing_43 ?_
      exact pm_iret hC hR pm_nar0 ⟨0, rfl, ⟨by omega, by omega⟩, hV36, hF40, hT⟩ dX12_knowing_44
    · skip
      replace hT := hT.trans (if_neg (fun q => q c55))
      refine pm_iconst (v := 1) hC dX12_knowing_39 ?_
      refine pm_goto (tgt := 44) hC dX12_knowing_40 (by decide) ?_
      exact pm_iret hC hR pm_nar0 ⟨1, rfl, ⟨by omega, by omega⟩, hV36, hF40, hT⟩ dX12_knowing_44
  · skip
    replace hT := hT.trans (if_neg (fun q => q c18))
    refine pm_iconst (v := (-1)) hC dX12_knowing_12 ?_
    exact pm_iret hC hR pm_nar0 ⟨(-1), rfl, ⟨by omega, by omega⟩, hV9, hF14, hT⟩ dX12_knowing_13
set_option maxHeartbeats 4000000 in
set_option maxRecDepth 100000 in
theorem fB_X12_tellsNames (a1 a2 a3 : Int) (h0 : 0 ≤ a1 ∧ a1 ≤ 999) (h1 : 0 ≤ a2 ∧ a2 ≤ 99) (h2 : (-99) ≤ a3 ∧ a3 ≤ 99) (h3 : a1 % 10 ≤ 8 ∧ a1 / 10 % 10 ≤ 8) : pm_K 4 yX12_tellsNames cX12_tellsNames 4 none (fun av V => av = [(3, 90), (0, a1), (0, a2), (0, a3)] ∧ pm_oq pm_qB V ∧ (a1 % 10 < V 90 16) ∧ (a1 / 10 % 10 < V 90 16) ∧ pm_h1 V ∧ pm_h2 V) (fun _ V r V' => r = none ∧ pm_oq pm_qB V' ∧ pm_fs [110, 111, 112, 116] [42, 43, 44, 45, 46, 47, 48, 49, 51] V V' ∧ F_X12_tellsNames a1 a2 a3 V = (0, V')) := by
  refine pm_MT.of (by decide) ⟨Nat.le_refl _, by decide⟩ (fun av V h => by rw [h.1]; exact (by decide : pm_words [(3, 0), (0, 0), (0, 0), (0, 0)] ≤ 4)) ?_
  rintro X av V0 hC - hR ⟨rfl, hV0, hmp0, hmp1, hn_pm_h1, hn_pm_h2⟩
  change pm_J X 0 [(0, (3, 90)), (1, (0, a1)), (2, (0, a2)), (3, (0, a3))] [] 118 V0
  have hT := F_X12_tellsNames_eq a1 a2 a3 V0
  obtain ⟨y1, e2⟩ : ∃ y, V0 90 16 = y := ⟨_, rfl⟩
  have b3 := hV0.get 90 16 (lo := 2) (hi := 9) (by decide) (by decide) rfl
  rw [e2] at b3
  replace hT := hT.trans (pf_let_eq e2)
  refine pm_aload_n hC 0 (by decide) dX12_tellsNames_0 rfl ?_
  refine pm_iload_n hC 1 dX12_tellsNames_1 rfl ?_
  refine pm_iload_n hC 2 dX12_tellsNames_2 rfl ?_
  refine pm_iload_n hC 3 dX12_tellsNames_3 rfl ?_
  refine pm_callV (ci := 12) (as := [(0, a1), (0, a2), (0, a3)]) (st := []) hC 90 (fB_X12_works a1 a2 a3 ⟨by omega, by omega⟩ ⟨by omega, by omega⟩ ⟨by omega, by omega⟩ (by omega)) lm_X12_376 li_X12_works (by decide) (by decide) rfl rfl rfl (by decide) rfl rfl (Nat.le_of_ble_eq_true rfl) ⟨Nat.le_refl _, Or.inl rfl⟩ dX12_tellsNames_4 ⟨rfl, hV0, (show (a1) % 10 < V0 90 16 by omega), (show (a1) / 10 % 10 < V0 90 16 by omega), hn_pm_h1⟩ (fun r4 V5 hp6 => ?_)
  obtain ⟨rfl, hV7, hF8, hq9, hq10, hg11, hg12, hE13⟩ := hp6
  replace hT := hT.trans (pf_call_eq hE13)
  change pm_J X 7 [(0, (3, 90)), (1, (0, a1)), (2, (0, a2)), (3, (0, a3))] [] 118 V5
  have hF14 := pm_fs.tr (pm_fs.rf (cs := [110, 111, 112, 116]) (fs := [42, 43, 44, 45, 46, 47, 48, 49, 51]) (V := V0)) hF8 (by decide) (by decide)
  have e15 : V5 90 16 = y1 := by rw [hF8.2 16 (by decide)]; exact e2
  have hp16 : pm_h1 V5 := (pm_h1.fr hn_pm_h1 (hF8.2 16 (by decide)) (hF8.1 97 (by decide) (by decide)))
  have hp17 : pm_h2 V5 := (pm_h2.fr hn_pm_h2 (hF8.2 16 (by decide)) (hF8.2 21 (by decide)) (hF8.1 99 (by decide) (by decide)))
  obtain ⟨z18, ez19⟩ : ∃ z, V5 90 42 = z := ⟨_, rfl⟩
  rw [ez19] at hq9
  replace hT := hT.trans (pf_let_eq ez19)
  obtain ⟨z20, ez21⟩ : ∃ z, V5 90 43 = z := ⟨_, rfl⟩
  rw [ez21] at hq10
  replace hT := hT.trans (pf_let_eq ez21)
  refine pm_aload_n hC 0 (by decide) dX12_tellsNames_7 rfl ?_
  refine pm_iconst (v := 4) hC dX12_tellsNames_8 ?_
  have q25 : 1 ≤ V5 90 42 ∧ V5 90 42 ≤ 171 := by (have e : V5 90 42 = z18 := ez19); rw [e]; exact ⟨by omega, by omega⟩
  have q26 : 1 ≤ V5 90 43 ∧ V5 90 43 ≤ 171 := by (have e : V5 90 43 = z20 := ez21); rw [e]; exact ⟨by omega, by omega⟩
  refine pm_callV (ci := 12) (as := [(0, 4)]) (st := []) hC 90 (fB_X12_weighs 4 ⟨by decide, by decide⟩) lm_X12_380 li_X12_weighs (by decide) (by decide) rfl rfl rfl (by decide) rfl rfl (Nat.le_of_ble_eq_true rfl) ⟨Nat.le_refl _, Or.inl rfl⟩ dX12_tellsNames_9 ⟨rfl, hV7, q25, q26, hg11, hp16, hp17, hg12⟩ (fun r22 V23 hp24 => ?_)
  obtain ⟨rfl, hV27, hF28, hg29, hE30⟩ := hp24
  replace hT := hT.trans (pf_call_eq hE30)
  change pm_J X 12 [(0, (3, 90)), (1, (0, a1)), (2, (0, a2)), (3, (0, a3))] [] 118 V23
  have hF31 := pm_fs.tr hF14 hF28 (by decide) (by decide)
  have e32 : V23 90 16 = y1 := by rw [hF28.2 16 (by decide)]; exact e15
  have e33 : V23 90 42 = z18 := by rw [hF28.2 42 (by decide)]; exact ez19
  have e34 : V23 90 43 = z20 := by rw [hF28.2 43 (by decide)]; exact ez21
  have hp35 : pm_h1 V23 := (pm_h1.fr hp16 (hF28.2 16 (by decide)) (hF28.1 97 (by decide) (by decide)))
  have hp36 : pm_h2 V23 := (pm_h2.fr hp17 (hF28.2 16 (by decide)) (hF28.2 21 (by decide)) (hF28.1 99 (by decide) (by decide)))
  have hp37 : pm_w1 V23 := (pm_w1.fr hg11 (hF28.2 16 (by decide)) (hF28.2 48 (by decide)) (hF28.2 49 (by decide)) (hF28.1 110 (by decide) (by decide)) (hF28.1 111 (by decide) (by decide)))
  have hp38 : pm_w3 V23 := (pm_w3.fr hg12 (hF28.2 16 (by decide)) (hF28.2 46 (by decide)) (hF28.1 110 (by decide) (by decide)) (hF28.1 111 (by decide) (by decide)))
  refine pm_aload_n hC 0 (by decide) dX12_tellsNames_12 rfl ?_
  have e39 : V23 90 55 = 116 := hV27.one 90 55 (by decide) (by decide) rfl
  refine pm_getf (v := 116) hC 90 fl_X12_88 rfl rfl (by decide) rfl e39 dX12_tellsNames_13 ?_
  refine pm_iconst (v := 0) hC dX12_tellsNames_16 ?_
  refine pm_aload_n hC 0 (by decide) dX12_tellsNames_17 rfl ?_
  refine pm_iconst (v := 3) hC dX12_tellsNames_18 ?_
  refine pm_callV (ci := 12) (as := [(0, 3)]) (st := [(0, 0), (3, 116)]) hC 90 (fB_X12_chanceOfKind 3 ⟨by decide, by decide⟩) lm_X12_390 li_X12_chanceOfKind (by decide) (by decide) rfl rfl rfl (by decide) rfl rfl (Nat.le_of_ble_eq_true rfl) ⟨Nat.le_refl _, Or.inl rfl⟩ dX12_tellsNames_19 ⟨rfl, hV27, hg29⟩ (fun r40 V41 hp42 => ?_)
  obtain ⟨y43, rfl, b44, rfl, hE45⟩ := hp42
  replace hT := hT.trans (pf_call_eq hE45)
  change pm_J X 22 [(0, (3, 90)), (1, (0, a1)), (2, (0, a2)), (3, (0, a3))] [(0, y43), (0, 0), (3, 116)] 118 V23
  refine pm_iastore (len := 7) hC 116 rfl rfl (by decide) ⟨by decide, by decide⟩ (by decide) dX12_tellsNames_22 ?_
  refine pm_aload_n hC 0 (by decide) dX12_tellsNames_23 rfl ?_
  refine pm_getf (v := 116) hC 90 fl_X12_88 rfl rfl (by decide) rfl e39 dX12_tellsNames_24 ?_
  refine pm_iconst (v := 1) hC dX12_tellsNames_27 ?_
  refine pm_aload_n hC 0 (by decide) dX12_tellsNames_28 rfl ?_
  refine pm_callV (ci := 12) (as := []) (st := [(0, 1), (3, 116)]) hC 90 fB_X12_noticedNow lm_X12_396 li_X12_noticedNow (by decide) (by decide) rfl rfl rfl (by decide) rfl rfl (Nat.le_of_ble_eq_true rfl) ⟨Nat.le_refl _, Or.inl rfl⟩ dX12_tellsNames_29 ⟨rfl, (hV27.put 116 (0 : Int).toNat (x := y43) (lo := (-2147483648)) (hi := 2147483647) rfl ⟨by omega, by omega⟩)⟩ (fun r46 V47 hp48 => ?_)
  obtain ⟨y49, rfl, b50, rfl, hE51⟩ := hp48
  replace hT := hT.trans (pf_call_eq hE51)
  change pm_J X 32 [(0, (3, 90)), (1, (0, a1)), (2, (0, a2)), (3, (0, a3))] [(0, y49), (0, 1), (3, 116)] 118 (pm_up V23 116 (0 : Int).toNat y43)
  refine pm_iastore (len := 7) hC 116 rfl rfl (by decide) ⟨by decide, by decide⟩ (by decide) dX12_tellsNames_32 ?_
  refine pm_aload_n hC 0 (by decide) dX12_tellsNames_33 rfl ?_
  refine pm_getf (v := 116) hC 90 fl_X12_88 rfl rfl (by decide) rfl e39 dX12_tellsNames_34 ?_
  refine pm_iconst (v := 2) hC dX12_tellsNames_37 ?_
  refine pm_aload_n hC 0 (by decide) dX12_tellsNames_38 rfl ?_
  refine pm_aload_n hC 0 (by decide) dX12_tellsNames_39 rfl ?_
  obtain ⟨y52, e53⟩ : ∃ y, V23 90 48 = y := ⟨_, rfl⟩
  have b54 := hV27.get 90 48 (lo := 0) (hi := 8) (by decide) (by decide) rfl
  rw [e53] at b54
  replace hT := hT.trans (pf_let_eq e53)
  refine pm_getf (v := y52) hC 90 fl_X12_305 rfl rfl (by decide) rfl e53 dX12_tellsNames_40 ?_
  refine pm_callV (ci := 12) (as := [(0, y52)]) (st := [(0, 2), (3, 116)]) hC 90 (fB_X12_chanceOf y52 ⟨by omega, by omega⟩) lm_X12_387 li_X12_chanceOf (by decide) (by decide) rfl rfl rfl (by decide) rfl rfl (Nat.le_of_ble_eq_true rfl) ⟨Nat.le_refl _, Or.inl rfl⟩ dX12_tellsNames_43 ⟨rfl, ((hV27.put 116 (0 : Int).toNat (x := y43) (lo := (-2147483648)) (hi := 2147483647) rfl ⟨by omega, by omega⟩).put 116 (1 : Int).toNat (x := y49) (lo := (-2147483648)) (hi := 2147483647) rfl ⟨by omega, by omega⟩), (pm_w2.fr hg29 rfl rfl rfl)⟩ (fun r55 V56 hp57 => ?_)
  obtain ⟨y58, rfl, b59, rfl, hE60⟩ := hp57
  replace hT := hT.trans (pf_call_eq hE60)
  change pm_J X 46 [(0, (3, 90)), (1, (0, a1)), (2, (0, a2)), (3, (0, a3))] [(0, y58), (0, 2), (3, 116)] 118 (pm_up (pm_up V23 116 (0 : Int).toNat y43) 116 (1 : Int).toNat y49)
  refine pm_iastore (len := 7) hC 116 rfl rfl (by decide) ⟨by decide, by decide⟩ (by decide) dX12_tellsNames_46 ?_
  refine pm_aload_n hC 0 (by decide) dX12_tellsNames_47 rfl ?_
  refine pm_getf (v := 116) hC 90 fl_X12_88 rfl rfl (by decide) rfl e39 dX12_tellsNames_48 ?_
  refine pm_iconst (v := 3) hC dX12_tellsNames_51 ?_
  refine pm_aload_n hC 0 (by decide) dX12_tellsNames_52 rfl ?_
  refine pm_aload_n hC 0 (by decide) dX12_tellsNames_53 rfl ?_
  obtain ⟨y61, e62⟩ : ∃ y, V23 90 49 = y := ⟨_, rfl⟩
  have b63 := hV27.get 90 49 (lo := 0) (hi := 8) (by decide) (by decide) rfl
  rw [e62] at b63
  replace hT := hT.trans (pf_let_eq e62)
  refine pm_getf (v := y61) hC 90 fl_X12_308 rfl rfl (by decide) rfl e62 dX12_tellsNames_54 ?_
  refine pm_callV (ci := 12) (as := [(0, y61)]) (st := [(0, 3), (3, 116)]) hC 90 (fB_X12_chanceOf y61 ⟨by omega, by omega⟩) lm_X12_387 li_X12_chanceOf (by decide) (by decide) rfl rfl rfl (by decide) rfl rfl (Nat.le_of_ble_eq_true rfl) ⟨Nat.le_refl _, Or.inl rfl⟩ dX12_tellsNames_57 ⟨rfl, (((hV27.put 116 (0 : Int).toNat (x := y43) (lo := (-2147483648)) (hi := 2147483647) rfl ⟨by omega, by omega⟩).put 116 (1 : Int).toNat (x := y49) (lo := (-2147483648)) (hi := 2147483647) rfl ⟨by omega, by omega⟩).put 116 (2 : Int).toNat (x := y58) (lo := (-2147483648)) (hi := 2147483647) rfl ⟨by omega, by omega⟩), (pm_w2.fr hg29 rfl rfl rfl)⟩ (fun r64 V65 hp66 => ?_)
  obtain ⟨y67, rfl, b68, rfl, hE69⟩ := hp66
  replace hT := hT.trans (pf_call_eq hE69)
  change pm_J X 60 [(0, (3, 90)), (1, (0, a1)), (2, (0, a2)), (3, (0, a3))] [(0, y67), (0, 3), (3, 116)] 118 (pm_up (pm_up (pm_up V23 116 (0 : Int).toNat y43) 116 (1 : Int).toNat y49) 116 (2 : Int).toNat y58)
  refine pm_iastore (len := 7) hC 116 rfl rfl (by decide) ⟨by decide, by decide⟩ (by decide) dX12_tellsNames_60 ?_
  refine pm_aload_n hC 0 (by decide) dX12_tellsNames_61 rfl ?_
  refine pm_getf (v := 116) hC 90 fl_X12_88 rfl rfl (by decide) rfl e39 dX12_tellsNames_62 ?_
  refine pm_iconst (v := 4) hC dX12_tellsNames_65 ?_
  refine pm_iload_n hC 2 dX12_tellsNames_66 rfl ?_
  refine pm_bipush (v := 10) hC dX12_tellsNames_67 (by decide) ?_
  refine pm_idiv hC ⟨by omega, by omega, by omega⟩ ⟨by decide, by decide, by decide⟩ dX12_tellsNames_69 ?_
  refine pm_iastore (len := 7) hC 116 rfl rfl (by decide) ⟨by decide, by decide⟩ (by decide) dX12_tellsNames_70 ?_
  refine pm_aload_n hC 0 (by decide) dX12_tellsNames_71 rfl ?_
  refine pm_getf (v := 116) hC 90 fl_X12_88 rfl rfl (by decide) rfl e39 dX12_tellsNames_72 ?_
  refine pm_iconst (v := 5) hC dX12_tellsNames_75 ?_
  refine pm_iload_n hC 2 dX12_tellsNames_76 rfl ?_
  refine pm_bipush (v := 10) hC dX12_tellsNames_77 (by decide) ?_
  refine pm_irem hC ⟨by omega, by omega, by omega⟩ ⟨by decide, by decide, by decide⟩ dX12_tellsNames_79 ?_
  refine pm_iastore (len := 7) hC 116 rfl rfl (by decide) ⟨by decide, by decide⟩ (by decide) dX12_tellsNames_80 ?_
  refine pm_aload_n hC 0 (by decide) dX12_tellsNames_81 rfl ?_
  refine pm_getf (v := 116) hC 90 fl_X12_88 rfl rfl (by decide) rfl e39 dX12_tellsNames_82 ?_
  refine pm_bipush (v := 6) hC dX12_tellsNames_85 (by decide) ?_
  refine pm_iload_n hC 3 dX12_tellsNames_87 rfl ?_
  refine pm_callS (as := [(0, a3)]) (st := [(0, 6), (3, 116)]) hC (fB_X12_far a3 ⟨by omega, by omega⟩) lm_X12_338 ls_X12_far (by decide) (by decide) rfl rfl (Nat.le_of_ble_eq_true rfl) ⟨Nat.le_refl _, Or.inl rfl⟩ dX12_tellsNames_88 ⟨rfl, ((((((hV27.put 116 (0 : Int).toNat (x := y43) (lo := (-2147483648)) (hi := 2147483647) rfl ⟨by omega, by omega⟩).put 116 (1 : Int).toNat (x := y49) (lo := (-2147483648)) (hi := 2147483647) rfl ⟨by omega, by omega⟩).put 116 (2 : Int).toNat (x := y58) (lo := (-2147483648)) (hi := 2147483647) rfl ⟨by omega, by omega⟩).put 116 (3 : Int).toNat (x := y67) (lo := (-2147483648)) (hi := 2147483647) rfl ⟨by omega, by omega⟩).put 116 (4 : Int).toNat (x := (a2 / 10)) (lo := (-2147483648)) (hi := 2147483647) rfl ⟨by omega, by omega⟩).put 116 (5 : Int).toNat (x := (a2 % 10)) (lo := (-2147483648)) (hi := 2147483647) rfl ⟨by omega, by omega⟩)⟩ (fun r70 V71 hp72 => ?_)
  obtain ⟨y73, rfl, b74, rfl, hE75⟩ := hp72
  replace hT := hT.trans (pf_call_eq hE75)
  change pm_J X 91 [(0, (3, 90)), (1, (0, a1)), (2, (0, a2)), (3, (0, a3))] [(0, y73), (0, 6), (3, 116)] 118 (pm_up (pm_up (pm_up (pm_up (pm_up (pm_up V23 116 (0 : Int).toNat y43) 116 (1 : Int).toNat y49) 116 (2 : Int).toNat y58) 116 (3 : Int).toNat y67) 116 (4 : Int).toNat (a2 / 10)) 116 (5 : Int).toNat (a2 % 10))
  refine pm_iastore (len := 7) hC 116 rfl rfl (by decide) ⟨by decide, by decide⟩ (by decide) dX12_tellsNames_91 ?_
  exact pm_vret hC hR ⟨rfl, (((((((hV27.put 116 (0 : Int).toNat (x := y43) (lo := (-2147483648)) (hi := 2147483647) rfl ⟨by omega, by omega⟩).put 116 (1 : Int).toNat (x := y49) (lo := (-2147483648)) (hi := 2147483647) rfl ⟨by omega, by omega⟩).put 116 (2 : Int).toNat (x := y58) (lo := (-2147483648)) (hi := 2147483647) rfl ⟨by omega, by omega⟩).put 116 (3 : Int).toNat (x := y67) (lo := (-2147483648)) (hi := 2147483647) rfl ⟨by omega, by omega⟩).put 116 (4 : Int).toNat (x := (a2 / 10)) (lo := (-2147483648)) (hi := 2147483647) rfl ⟨by omega, by omega⟩).put 116 (5 : Int).toNat (x := (a2 % 10)) (lo := (-2147483648)) (hi := 2147483647) rfl ⟨by omega, by omega⟩).put 116 (6 : Int).toNat (x := y73) (lo := (-2147483648)) (hi := 2147483647) rfl ⟨by omega, by omega⟩), (((((((hF31.up 116 (0 : Int).toNat y43 (by decide) rfl).up 116 (1 : Int).toNat y49 (by decide) rfl).up 116 (2 : Int).toNat y58 (by decide) rfl).up 116 (3 : Int).toNat y67 (by decide) rfl).up 116 (4 : Int).toNat (a2 / 10) (by decide) rfl).up 116 (5 : Int).toNat (a2 % 10) (by decide) rfl).up 116 (6 : Int).toNat y73 (by decide) rfl), hT⟩ dX12_tellsNames_92
set_option maxHeartbeats 4000000 in
set_option maxRecDepth 100000 in
theorem fB_X12_draws (a1 : Int) (h0 : 1 ≤ a1 ∧ a1 ≤ 720000000) : pm_K 1 yX12_draws cX12_draws 3 (some .int) (fun av V => av = [(3, 90), (1, a1)] ∧ pm_oq pm_qB V) (fun _ V r V' => ∃ y, r = some (0, y) ∧ (0 ≤ y ∧ y ≤ 8388607 ∧ (y < a1)) ∧ pm_oq pm_qB V' ∧ pm_fs [] [57] V V' ∧ F_X12_draws a1 V = (y, V')) := by
  refine pm_MT.of (by decide) ⟨Nat.le_refl _, by decide⟩ (fun av V h => by rw [h.1]; exact (by decide : pm_words [(3, 0), (1, 0)] ≤ 3)) ?_
  rintro X av V0 hC - hR ⟨rfl, hV0⟩
  change pm_J X 0 [(0, (3, 90)), (1, (1, a1))] [] 118 V0
  have hT := F_X12_draws_eq a1 V0
  refine pm_aload_n hC 0 (by decide) dX12_draws_0 rfl ?_
  refine pm_aload_n hC 0 (by decide) dX12_draws_1 rfl ?_
  obtain ⟨y1, e2⟩ : ∃ y, V0 90 57 = y := ⟨_, rfl⟩
  have b3 := hV0.get 90 57 (lo := (-9223372036854775808)) (hi := 9223372036854775807) (by decide) (by decide) rfl
  rw [e2] at b3
  replace hT := hT.trans (pf_let_eq e2)
  refine pm_getf (v := y1) hC 90 fl_X12_464 rfl rfl (by decide) rfl e2 dX12_draws_2 ?_
  refine pm_ldc2 (v := 1103515245) hC 8028 dX12_draws_5 (by decide +kernel) ?_
  refine pm_lmul hC dX12_draws_8 ?_
  refine pm_wrL hC (fun y4 hw6 b5 => ?_)
  replace hT := hT.trans (pf_let_eq hw6)
  have b5 := And.intro b5.1 b5.2
  refine pm_ldc2 (v := 12345) hC 8029 dX12_draws_9 (by decide +kernel) ?_
  refine pm_ladd hC dX12_draws_12 ?_
  refine pm_wrL hC (fun y7 hw9 b8 => ?_)
  replace hT := hT.trans (pf_let_eq hw9)
  have b8 := And.intro b8.1 b8.2
  refine pm_ldc2 (v := 2147483647) hC 8030 dX12_draws_13 (by decide +kernel) ?_
  refine pm_land hC dX12_draws_16 ?_
  have b11 := pm_landb (x := y7) (y := 2147483647) (by decide)
  obtain ⟨y10, hey10⟩ : ∃ z, (pm_landV y7 2147483647) = z := ⟨_, rfl⟩
  rw [hey10] at b11 ⊢
  replace hT := hT.trans (pf_let_eq hey10)
  refine pm_putf hC 90 fl_X12_464 rfl rfl rfl (by decide) rfl trivial dX12_draws_17 ?_
  refine pm_aload_n hC 0 (by decide) dX12_draws_20 rfl ?_
  refine pm_getf (v := y10) hC 90 fl_X12_464 rfl rfl (by decide) rfl rfl dX12_draws_21 ?_
  refine pm_ldc2 (v := 256) hC 8031 dX12_draws_24 (by decide +kernel) ?_
  refine pm_ldiv hC ⟨by omega, by omega, by omega⟩ ⟨by decide, by decide, by decide⟩ dX12_draws_27 ?_
  refine pm_lload_n hC 1 dX12_draws_28 rfl ?_
  refine pm_lrem hC ⟨by omega, by omega, by omega⟩ ⟨by omega, by omega, by omega⟩ dX12_draws_29 ?_
  have b13 := pm_modb (x := (y10 / 256)) (y := a1) (by omega) (by omega)
  obtain ⟨y12, hey12⟩ : ∃ z, ((y10 / 256) % a1) = z := ⟨_, rfl⟩
  rw [hey12] at b13 ⊢
  replace hT := hT.trans (pf_let_eq hey12)
  refine pm_l2i hC dX12_draws_30 ?_
  exact pm_iret hC hR pm_nar0 ⟨y12, rfl, ⟨by omega, by omega, by omega⟩, (hV0.put 90 57 (x := y10) (lo := (-9223372036854775808)) (hi := 9223372036854775807) rfl ⟨by omega, by omega⟩), ((pm_fs.rf (cs := []) (fs := [57]) (V := V0)).upf 57 y10 rfl), hT⟩ dX12_draws_31
