/-! THE LAW'S LOOP, and the objects that it makes -/
section LW
variable {X : pm_X} {L : Nat} {xs : Nat → Int32} {i : Int} {V : pm_M}
set_option maxHeartbeats 4000000 in
set_option maxRecDepth 100000 in
theorem lw_loop (hC : pm_C X RL cL_law 4 60) (hS : pm_Sc X L xs) (hL : L ≤ 3072) (hEnd : ∀ (i : Int) (V : pm_M), lw_J V → pm_J X 1572 (lw_lv i) [] 118 V) : ∀ (N : Nat) (i : Int) (V : pm_M), ((L : Int) - i).toNat = N → 0 ≤ i → i ≤ (L : Int) → lw_J V → pm_J X 18 (lw_lv i) [] 118 V := by
  intro N
  induction N using Nat.strongRecOn with
  | _ N ih =>
  intro i V hN h0 h1 hV
  refine pm_iload_n hC 3 dL_law_18 rfl ?_
  refine pm_aloadS hC 0 (by decide) dL_law_19 rfl ?_
  refine pm_slen hC hS dL_law_20 ?_
  refine pm_bipush (v := 6) hC dL_law_21 (by decide) ?_
  refine pm_isub hC dL_law_23 ?_
  refine pm_icmp_gt (tgt := 1572) hC ⟨by omega, by omega⟩ ⟨by omega, by omega⟩ dL_law_24 (by decide) (fun c => ?_) (fun c => ?_)
  · exact hEnd i V hV
  have hi : 0 ≤ i ∧ i + 6 ≤ (L : Int) := ⟨h0, by omega⟩
  have nxt : ∀ V', lw_J V' → pm_J X 1566 (lw_lv i) [] 118 V' := fun V' hV' => by
    refine pm_iinc (y := i + 6) (lv' := [(3, (0, i + 6)), (0, (5, 0)), (1, (3, 0)), (2, (3, 90))]) hC 3 dL_law_1566 (by decide) rfl rfl rfl ?_
    refine pm_goto (tgt := 18) hC dL_law_1569 (by decide) ?_
    refine pm_lvsub [1, 2, 3, 0] (lv' := lw_lv (i + 6)) rfl ?_
    exact ih _ (by omega) (i + 6) V' rfl (by omega) (by omega) hV'
  refine pm_aloadS hC 0 (by decide) dL_law_27 rfl ?_
  refine pm_iload_n hC 3 dL_law_28 rfl ?_
  refine pm_sld hC hS ⟨by omega, by omega⟩ (by omega) dL_law_29 ?_
  refine pm_bipush (v := 63) hC dL_law_30 (by decide) ?_
  refine pm_iand hC dL_law_32 ?_
  have hb := pm_iandb (x := (xs i.toNat).toInt) (y := 63) (by decide)
  obtain ⟨z, hz⟩ : ∃ z, pm_iandV (xs i.toNat).toInt 63 = z := ⟨_, rfl⟩
  rw [hz] at hb ⊢
  rcases (show (z < 0 ∨ 33 < z) ∨ z = (0 : Int) ∨ z = (1 : Int) ∨ z = (2 : Int) ∨ z = (3 : Int) ∨ z = (4 : Int) ∨ z = (5 : Int) ∨ z = (6 : Int) ∨ z = (7 : Int) ∨ z = (8 : Int) ∨ z = (9 : Int) ∨ z = (10 : Int) ∨ z = (11 : Int) ∨ z = (12 : Int) ∨ z = (13 : Int) ∨ z = (14 : Int) ∨ z = (15 : Int) ∨ z = (16 : Int) ∨ z = (17 : Int) ∨ z = (18 : Int) ∨ z = (19 : Int) ∨ z = (20 : Int) ∨ z = (21 : Int) ∨ z = (22 : Int) ∨ z = (23 : Int) ∨ z = (24 : Int) ∨ z = (25 : Int) ∨ z = (26 : Int) ∨ z = (27 : Int) ∨ z = (28 : Int) ∨ z = (29 : Int) ∨ z = (30 : Int) ∨ z = (31 : Int) ∨ z = (32 : Int) ∨ z = (33 : Int) by omega) with c | c | c | c | c | c | c | c | c | c | c | c | c | c | c | c | c | c | c | c | c | c | c | c | c | c | c | c | c | c | c | c | c | c | c
  · exact pm_tableOut (tgt := 1566) hC ⟨by omega, by omega⟩ dL_law_33 c (by decide) (nxt V hV)
  · exact pm_tableIn (tgt := 184) (off := 151) hC ⟨by omega, by omega⟩ dL_law_33 (by omega) (by omega) (by rw [c]; rfl) (by decide) (lw_c_feed hC hS hL hi hV nxt)
  · exact pm_tableIn (tgt := 247) (off := 214) hC ⟨by omega, by omega⟩ dL_law_33 (by omega) (by omega) (by rw [c]; rfl) (by decide) (lw_c_end hC hS hL hi hV nxt)
  · exact pm_tableIn (tgt := 270) (off := 237) hC ⟨by omega, by omega⟩ dL_law_33 (by omega) (by omega) (by rw [c]; rfl) (by decide) (lw_c_fault hC hS hL hi hV nxt)
  · exact pm_tableIn (tgt := 293) (off := 260) hC ⟨by omega, by omega⟩ dL_law_33 (by omega) (by omega) (by rw [c]; rfl) (by decide) (lw_c_scene hC hS hL hi hV nxt)
  · exact pm_tableIn (tgt := 306) (off := 273) hC ⟨by omega, by omega⟩ dL_law_33 (by omega) (by omega) (by rw [c]; rfl) (by decide) (lw_c_rules hC hS hL hi hV nxt)
  · exact pm_tableIn (tgt := 319) (off := 286) hC ⟨by omega, by omega⟩ dL_law_33 (by omega) (by omega) (by rw [c]; rfl) (by decide) (lw_c_sound hC hS hL hi hV nxt)
  · exact pm_tableIn (tgt := 352) (off := 319) hC ⟨by omega, by omega⟩ dL_law_33 (by omega) (by omega) (by rw [c]; rfl) (by decide) (lw_c_person hC hS hL hi hV nxt)
  · exact pm_tableIn (tgt := 395) (off := 362) hC ⟨by omega, by omega⟩ dL_law_33 (by omega) (by omega) (by rw [c]; rfl) (by decide) (lw_c_who hC hS hL hi hV nxt)
  · exact pm_tableIn (tgt := 428) (off := 395) hC ⟨by omega, by omega⟩ dL_law_33 (by omega) (by omega) (by rw [c]; rfl) (by decide) (lw_c_becomes hC hS hL hi hV nxt)
  · exact pm_tableIn (tgt := 481) (off := 448) hC ⟨by omega, by omega⟩ dL_law_33 (by omega) (by omega) (by rw [c]; rfl) (by decide) (lw_c_weight hC hS hL hi hV nxt)
  · exact pm_tableIn (tgt := 544) (off := 511) hC ⟨by omega, by omega⟩ dL_law_33 (by omega) (by omega) (by rw [c]; rfl) (by decide) (lw_c_chance hC hS hL hi hV nxt)
  · exact pm_tableIn (tgt := 607) (off := 574) hC ⟨by omega, by omega⟩ dL_law_33 (by omega) (by omega) (by rw [c]; rfl) (by decide) (lw_c_kind hC hS hL hi hV nxt)
  · exact pm_tableIn (tgt := 670) (off := 637) hC ⟨by omega, by omega⟩ dL_law_33 (by omega) (by omega) (by rw [c]; rfl) (by decide) (lw_c_likely hC hS hL hi hV nxt)
  · exact pm_tableIn (tgt := 723) (off := 690) hC ⟨by omega, by omega⟩ dL_law_33 (by omega) (by omega) (by rw [c]; rfl) (by decide) (lw_c_noticed hC hS hL hi hV nxt)
  · exact pm_tableIn (tgt := 766) (off := 733) hC ⟨by omega, by omega⟩ dL_law_33 (by omega) (by omega) (by rw [c]; rfl) (by decide) (lw_c_answer hC hS hL hi hV nxt)
  · exact pm_tableIn (tgt := 819) (off := 786) hC ⟨by omega, by omega⟩ dL_law_33 (by omega) (by omega) (by rw [c]; rfl) (by decide) (lw_c_undo hC hS hL hi hV nxt)
  · exact pm_tableIn (tgt := 832) (off := 799) hC ⟨by omega, by omega⟩ dL_law_33 (by omega) (by omega) (by rw [c]; rfl) (by decide) (lw_c_of hC hS hL hi hV nxt)
  · exact pm_tableIn (tgt := 865) (off := 832) hC ⟨by omega, by omega⟩ dL_law_33 (by omega) (by omega) (by rw [c]; rfl) (by decide) (lw_c_more hC hS hL hi hV nxt)
  · exact pm_tableIn (tgt := 908) (off := 875) hC ⟨by omega, by omega⟩ dL_law_33 (by omega) (by omega) (by rw [c]; rfl) (by decide) (lw_c_best hC hS hL hi hV nxt)
  · exact pm_tableIn (tgt := 931) (off := 898) hC ⟨by omega, by omega⟩ dL_law_33 (by omega) (by omega) (by rw [c]; rfl) (by decide) (lw_c_own hC hS hL hi hV nxt)
  · exact pm_tableIn (tgt := 964) (off := 931) hC ⟨by omega, by omega⟩ dL_law_33 (by omega) (by omega) (by rw [c]; rfl) (by decide) (lw_c_share hC hS hL hi hV nxt)
  · exact pm_tableIn (tgt := 997) (off := 964) hC ⟨by omega, by omega⟩ dL_law_33 (by omega) (by omega) (by rw [c]; rfl) (by decide) (lw_c_foretold hC hS hL hi hV nxt)
  · exact pm_tableIn (tgt := 1040) (off := 1007) hC ⟨by omega, by omega⟩ dL_law_33 (by omega) (by omega) (by rw [c]; rfl) (by decide) (lw_c_pairs hC hS hL hi hV nxt)
  · exact pm_tableIn (tgt := 1103) (off := 1070) hC ⟨by omega, by omega⟩ dL_law_33 (by omega) (by omega) (by rw [c]; rfl) (by decide) (lw_c_hump hC hS hL hi hV nxt)
  · exact pm_tableIn (tgt := 1146) (off := 1113) hC ⟨by omega, by omega⟩ dL_law_33 (by omega) (by omega) (by rw [c]; rfl) (by decide) (lw_c_right hC hS hL hi hV nxt)
  · exact pm_tableIn (tgt := 1189) (off := 1156) hC ⟨by omega, by omega⟩ dL_law_33 (by omega) (by omega) (by rw [c]; rfl) (by decide) (lw_c_worth hC hS hL hi hV nxt)
  · exact pm_tableIn (tgt := 1232) (off := 1199) hC ⟨by omega, by omega⟩ dL_law_33 (by omega) (by omega) (by rw [c]; rfl) (by decide) (lw_c_parted hC hS hL hi hV nxt)
  · exact pm_tableIn (tgt := 1285) (off := 1252) hC ⟨by omega, by omega⟩ dL_law_33 (by omega) (by omega) (by rw [c]; rfl) (by decide) (lw_c_next hC hS hL hi hV nxt)
  · exact pm_tableIn (tgt := 1338) (off := 1305) hC ⟨by omega, by omega⟩ dL_law_33 (by omega) (by omega) (by rw [c]; rfl) (by decide) (lw_c_knowing hC hS hL hi hV nxt)
  · exact pm_tableIn (tgt := 1391) (off := 1358) hC ⟨by omega, by omega⟩ dL_law_33 (by omega) (by omega) (by rw [c]; rfl) (by decide) (lw_c_called hC hS hL hi hV nxt)
  · exact pm_tableIn (tgt := 1444) (off := 1411) hC ⟨by omega, by omega⟩ dL_law_33 (by omega) (by omega) (by rw [c]; rfl) (by decide) (lw_c_draw hC hS hL hi hV nxt)
  · exact pm_tableIn (tgt := 1497) (off := 1464) hC ⟨by omega, by omega⟩ dL_law_33 (by omega) (by omega) (by rw [c]; rfl) (by decide) (lw_c_image hC hS hL hi hV nxt)
  · exact pm_tableIn (tgt := 1520) (off := 1487) hC ⟨by omega, by omega⟩ dL_law_33 (by omega) (by omega) (by rw [c]; rfl) (by decide) (lw_c_back hC hS hL hi hV nxt)
  · exact pm_tableIn (tgt := 1543) (off := 1510) hC ⟨by omega, by omega⟩ dL_law_33 (by omega) (by omega) (by rw [c]; rfl) (by decide) (lw_c_count hC hS hL hi hV nxt)
set_option maxHeartbeats 4000000 in
set_option maxRecDepth 100000 in
theorem lw_entry (hC : pm_C X RL cL_law 4 60) (hS : pm_Sc X L xs) (hL : L ≤ 3072) (hT : pm_top X = 118) (hEnd : ∀ (i : Int) (V : pm_M), lw_J V → pm_J X 1572 (lw_lv i) [] 118 V) (V : pm_M) : pm_J X 0 [(0, (5, 0))] [] 0 V := by
  refine pm_new hC 1019 1020 1001 rfl rfl pm_ht11 (by decide +kernel) (by decide +kernel) (by decide +kernel) (by rw [hT]; decide) dL_law_0 ?_
  refine pm_dup hC rfl dL_law_3 ?_
  refine pm_callI (as := []) (st := [(3, 0)]) hC 0 i_X11_init_0 lm_L_9 ln_X11_init rfl (by decide) (by decide) rfl (by decide) rfl rfl (Nat.le_of_ble_eq_true rfl) ⟨by decide, Or.inr (by rw [hT]; decide)⟩ dL_law_4 ⟨rfl, fun i => rfl⟩ (fun r1 V1 hp1 => ?_)
  obtain ⟨rfl, hA1, -⟩ := hp1
  change pm_J X 7 [(0, (5, 0))] [(3, 0)] 90 V1
  refine pm_astore_n (lv' := [(1, (3, 0)), (0, (5, 0))]) hC (by decide) dL_law_7 (by decide) rfl ?_
  refine pm_new hC 5115 5116 1013 rfl rfl pm_ht12 (by decide +kernel) (by decide +kernel) (by decide +kernel) (by rw [hT]; decide) dL_law_8 ?_
  refine pm_dup hC rfl dL_law_11 ?_
  refine pm_callI (as := []) (st := [(3, 90)]) hC 90 i_X12_init_90 lm_L_12 ln_X12_init rfl (by decide) (by decide) rfl (by decide) rfl rfl (Nat.le_of_ble_eq_true rfl) ⟨by decide, Or.inr (by rw [hT]; decide)⟩ dL_law_12 ⟨rfl, fun i => rfl⟩ (fun r2 V2 hp2 => ?_)
  obtain ⟨rfl, hA2, hF2⟩ := hp2
  change pm_J X 15 [(1, (3, 0)), (0, (5, 0))] [(3, 90)] 118 V2
  refine pm_astore_n (lv' := [(2, (3, 90)), (1, (3, 0)), (0, (5, 0))]) hC (by decide) dL_law_15 (by decide) rfl ?_
  refine pm_iconst (v := 0) hC dL_law_16 ?_
  refine pm_istore_n (lv' := [(3, (0, 0)), (2, (3, 90)), (1, (3, 0)), (0, (5, 0))]) hC dL_law_17 (by decide) rfl ?_
  refine pm_lvsub [3, 2, 1, 0] (lv' := lw_lv 0) rfl ?_
  have hA3 : pm_wa 0 90 V2 := fun k k1 k2 j hj => by rw [hF2 k k2, pm_clr_c (by omega)]; exact hA1 k k1 k2 j hj
  have e0 : ∀ k j : Nat, (k = 1 ∧ j = 1) → V2 k j = 0 := fun k j h => by obtain ⟨rfl, rfl⟩ := h; exact hA3 1 (by decide) (by decide) 1 (by decide)
  have e1 : V2 1 1 = 0 := e0 1 1 ⟨rfl, rfl⟩
  have e2 : V2 90 1 = 0 := hA2 90 (by decide) (by decide) 1 (by decide)
  have e3 : V2 90 35 = 0 := hA2 90 (by decide) (by decide) 35 (by decide)
  have c : ∀ k j : Nat, k < 90 → j < pm_sz k → V2 k j = pm_v0 k j := fun k j h1 h2 => hA3 k (Nat.zero_le k) h1 j h2
  have r : ∀ k j : Nat, 90 ≤ k → k < 118 → j < pm_sz k → V2 k j = pm_v0 k j := fun k j h1 h2 h3 => hA2 k h1 h2 j h3
  have hQ : rq V2 V2 := lw_rq0 c r
  have hP : rp V2 V2 := lw_rp0 c r
  exact lw_loop hC hS hL hEnd _ 0 V2 rfl (Int.le_refl _) (by omega) ⟨⟨⟨pm_wa_ok hA3, ⟨by rw [e1, e2], by rw [e1]; decide, by rw [e1]; decide, fun j hj => absurd hj (by rw [e1]; omega)⟩, ⟨0, by decide, fun k hk => absurd hk (Nat.not_lt_zero _), by rw [e3]; rfl⟩, Or.inl (pm_wa_oq hA2)⟩, hQ⟩, hP⟩
end LW
