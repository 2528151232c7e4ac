set_option maxHeartbeats 4000000 in
set_option maxRecDepth 100000 in
theorem c_X11_isSound_0 (a1 : Int) (h0 : (-2147483648) ≤ a1 ∧ a1 ≤ 2147483647) : pm_K 1 yX11_isSound cX11_isSound 2 (some .boolean) (fun av V => av = [(3, 0), (0, a1)] ∧ pm_ok 0 90 V) (fun _ V r V' => ∃ y, r = some (0, y) ∧ (0 ≤ y ∧ y ≤ 1 ∧ (y = 1 → (0 ≤ a1 ∧ a1 ≤ 8))) ∧ V = V') := by
  refine pm_MT.of (by decide) ⟨Nat.le_refl _, by decide⟩ (fun av V h => by rw [h.1]; exact (by decide : pm_words [(3, 0), (0, 0)] ≤ 2)) ?_
  rintro X av V0 hC - hR ⟨rfl, hV0⟩
  change pm_J X 0 [(0, (3, 0)), (1, (0, a1))] [] 118 V0
  refine pm_iload_n hC 1 dX11_isSound_0 rfl ?_
  refine pm_if_lt (tgt := 19) hC ⟨by omega, by omega⟩ dX11_isSound_1 (by decide) (fun c1 => ?_) (fun c1 => ?_)
  · skip
    refine pm_iconst (v := 0) hC dX11_isSound_19 ?_
    exact pm_iret hC hR (pm_narZ (by omega)) ⟨0, rfl, ⟨by omega, by omega, by omega⟩, rfl⟩ dX11_isSound_20
  · skip
    refine pm_iload_n hC 1 dX11_isSound_4 rfl ?_
    refine pm_aload_n hC 0 (by decide) dX11_isSound_5 rfl ?_
    rcases hV0.get2 0 8 (lo := 45) (hi := 51) (by decide) (by decide) rfl with e2 | e2
    · skip
      refine pm_getf (v := 45) hC 0 fl_X11_35 rfl rfl (by decide) rfl e2 dX11_isSound_6 ?_
      obtain ⟨y3, e4⟩ : ∃ y, V0 45 0 = y := ⟨_, rfl⟩
      have b5 := hV0.get 45 0 (lo := 0) (hi := 9) (by decide) (by decide) rfl
      rw [e4] at b5
      refine pm_getf (v := y3) hC 45 fl_X11_136 rfl rfl (by decide) rfl e4 dX11_isSound_9 ?_
      refine pm_icmp_ge (tgt := 19) hC ⟨by omega, by omega⟩ ⟨by omega, by omega⟩ dX11_isSound_12 (by decide) (fun c6 => ?_) (fun c6 => ?_)
      · skip
        refine pm_iconst (v := 0) hC dX11_isSound_19 ?_
        exact pm_iret hC hR (pm_narZ (by omega)) ⟨0, rfl, ⟨by omega, by omega, by omega⟩, rfl⟩ dX11_isSound_20
      · skip
        refine pm_iconst (v := 1) hC dX11_isSound_15 ?_
        refine pm_goto (tgt := 20) hC dX11_isSound_16 (by decide) ?_
        exact pm_iret hC hR (pm_narZ (by omega)) ⟨1, rfl, ⟨by omega, by omega, by omega⟩, rfl⟩ dX11_isSound_20
    · skip
      refine pm_getf (v := 51) hC 0 fl_X11_35 rfl rfl (by decide) rfl e2 dX11_isSound_6 ?_
      obtain ⟨y7, e8⟩ : ∃ y, V0 51 0 = y := ⟨_, rfl⟩
      have b9 := hV0.get 51 0 (lo := 0) (hi := 9) (by decide) (by decide) rfl
      rw [e8] at b9
      refine pm_getf (v := y7) hC 51 fl_X11_136 rfl rfl (by decide) rfl e8 dX11_isSound_9 ?_
      refine pm_icmp_ge (tgt := 19) hC ⟨by omega, by omega⟩ ⟨by omega, by omega⟩ dX11_isSound_12 (by decide) (fun c10 => ?_) (fun c10 => ?_)
      · skip
        refine pm_iconst (v := 0) hC dX11_isSound_19 ?_
        exact pm_iret hC hR (pm_narZ (by omega)) ⟨0, rfl, ⟨by omega, by omega, by omega⟩, rfl⟩ dX11_isSound_20
      · skip
        refine pm_iconst (v := 1) hC dX11_isSound_15 ?_
        refine pm_goto (tgt := 20) hC dX11_isSound_16 (by decide) ?_
        exact pm_iret hC hR (pm_narZ (by omega)) ⟨1, rfl, ⟨by omega, by omega, by omega⟩, rfl⟩ dX11_isSound_20
set_option maxHeartbeats 4000000 in
set_option maxRecDepth 100000 in
theorem c_X11_sound_0 (a1 a2 : Int) (h0 : (-2147483648) ≤ a1 ∧ a1 ≤ 2147483647) (h1 : (-2147483648) ≤ a2 ∧ a2 ≤ 2147483647) : pm_K 2 yX11_sound cX11_sound 3 (some .int) (fun av V => av = [(3, 0), (0, a1), (0, a2)] ∧ pm_ok 0 90 V) (fun _ V r V' => ∃ y, r = some (0, y) ∧ ((-1) ≤ y ∧ y ≤ 99) ∧ V = V') := by
  refine pm_MT.of (by decide) ⟨Nat.le_refl _, by decide⟩ (fun av V h => by rw [h.1]; exact (by decide : pm_words [(3, 0), (0, 0), (0, 0)] ≤ 3)) ?_
  rintro X av V0 hC - hR ⟨rfl, hV0⟩
  change pm_J X 0 [(0, (3, 0)), (1, (0, a1)), (2, (0, a2))] [] 118 V0
  refine pm_aload_n hC 0 (by decide) dX11_sound_0 rfl ?_
  refine pm_iload_n hC 1 dX11_sound_1 rfl ?_
  refine pm_callV (ci := 11) (as := [(0, a1)]) (st := []) hC 0 (c_X11_isSound_0 a1 ⟨by omega, by omega⟩) lm_X11_142 li_X11_isSound (by decide) (by decide) rfl rfl rfl (by decide) rfl rfl (Nat.le_of_ble_eq_true rfl) ⟨Nat.le_refl _, Or.inl rfl⟩ dX11_sound_2 ⟨rfl, hV0⟩ (fun r1 V2 hp3 => ?_)
  obtain ⟨y4, rfl, b5, rfl⟩ := hp3
  change pm_J X 5 [(0, (3, 0)), (1, (0, a1)), (2, (0, a2))] [(0, y4)] 118 V0
  refine pm_if_ne (tgt := 10) hC ⟨by omega, by omega⟩ dX11_sound_5 (by decide) (fun c6 => ?_) (fun c6 => ?_)
  · skip
    refine pm_iload_n hC 2 dX11_sound_10 rfl ?_
    rcases (show (a2 < 0 ∨ 2 < a2) ∨ a2 = (0 : Int) ∨ a2 = (1 : Int) ∨ a2 = (2 : Int) by omega) with c7 | c7 | c7 | c7
    · skip
      refine pm_tableOut (tgt := 66) hC ⟨by omega, by omega⟩ dX11_sound_11 c7 (by decide) ?_
      refine pm_iconst (v := (-1)) hC dX11_sound_66 ?_
      exact pm_iret hC hR pm_nar0 ⟨(-1), rfl, ⟨by omega, by omega⟩, rfl⟩ dX11_sound_67
    · skip
      refine pm_tableIn (tgt := 36) (off := 25) hC ⟨by omega, by omega⟩ dX11_sound_11 (by omega) (by omega) (by rw [c7]; rfl) (by decide) ?_
      refine pm_aload_n hC 0 (by decide) dX11_sound_36 rfl ?_
      rcases hV0.get2 0 8 (lo := 45) (hi := 51) (by decide) (by decide) rfl with e8 | e8
      · skip
        refine pm_getf (v := 45) hC 0 fl_X11_35 rfl rfl (by decide) rfl e8 dX11_sound_37 ?_
        have e9 : V0 45 1 = 46 := hV0.one 45 1 (by decide) (by decide) rfl
        refine pm_getf (v := 46) hC 45 fl_X11_146 rfl rfl (by decide) rfl e9 dX11_sound_40 ?_
        refine pm_iload_n hC 1 dX11_sound_43 rfl ?_
        obtain ⟨y10, e11⟩ : ∃ y, V0 46 (a1 : Int).toNat = y := ⟨_, rfl⟩
        have b12 := hV0.get 46 (a1 : Int).toNat (lo := 0) (hi := 99) (by decide) (show _ < 9 by omega) rfl
        rw [e11] at b12
        refine pm_iaload (len := 9) (v := y10) hC 46 rfl rfl (by decide) ⟨by omega, by omega⟩ (by decide) e11 dX11_sound_44 ?_
        exact pm_iret hC hR pm_nar0 ⟨y10, rfl, ⟨by omega, by omega⟩, rfl⟩ dX11_sound_45
      · skip
        refine pm_getf (v := 51) hC 0 fl_X11_35 rfl rfl (by decide) rfl e8 dX11_sound_37 ?_
        have e13 : V0 51 1 = 52 := hV0.one 51 1 (by decide) (by decide) rfl
        refine pm_getf (v := 52) hC 51 fl_X11_146 rfl rfl (by decide) rfl e13 dX11_sound_40 ?_
        refine pm_iload_n hC 1 dX11_sound_43 rfl ?_
        obtain ⟨y14, e15⟩ : ∃ y, V0 52 (a1 : Int).toNat = y := ⟨_, rfl⟩
        have b16 := hV0.get 52 (a1 : Int).toNat (lo := 0) (hi := 99) (by decide) (show _ < 9 by omega) rfl
        rw [e15] at b16
        refine pm_iaload (len := 9) (v := y14) hC 52 rfl rfl (by decide) ⟨by omega, by omega⟩ (by decide) e15 dX11_sound_44 ?_
        exact pm_iret hC hR pm_nar0 ⟨y14, rfl, ⟨by omega, by omega⟩, rfl⟩ dX11_sound_45
    · skip
      refine pm_tableIn (tgt := 46) (off := 35) hC ⟨by omega, by omega⟩ dX11_sound_11 (by omega) (by omega) (by rw [c7]; rfl) (by decide) ?_
      refine pm_aload_n hC 0 (by decide) dX11_sound_46 rfl ?_
      rcases hV0.get2 0 8 (lo := 45) (hi := 51) (by decide) (by decide) rfl with e17 | e17
      · skip
        refine pm_getf (v := 45) hC 0 fl_X11_35 rfl rfl (by decide) rfl e17 dX11_sound_47 ?_
        have e18 : V0 45 2 = 47 := hV0.one 45 2 (by decide) (by decide) rfl
        refine pm_getf (v := 47) hC 45 fl_X11_150 rfl rfl (by decide) rfl e18 dX11_sound_50 ?_
        refine pm_iload_n hC 1 dX11_sound_53 rfl ?_
        obtain ⟨y19, e20⟩ : ∃ y, V0 47 (a1 : Int).toNat = y := ⟨_, rfl⟩
        have b21 := hV0.get 47 (a1 : Int).toNat (lo := 0) (hi := 99) (by decide) (show _ < 9 by omega) rfl
        rw [e20] at b21
        refine pm_iaload (len := 9) (v := y19) hC 47 rfl rfl (by decide) ⟨by omega, by omega⟩ (by decide) e20 dX11_sound_54 ?_
        exact pm_iret hC hR pm_nar0 ⟨y19, rfl, ⟨by omega, by omega⟩, rfl⟩ dX11_sound_55
      · skip
        refine pm_getf (v := 51) hC 0 fl_X11_35 rfl rfl (by decide) rfl e17 dX11_sound_47 ?_
        have e22 : V0 51 2 = 53 := hV0.one 51 2 (by decide) (by decide) rfl
        refine pm_getf (v := 53) hC 51 fl_X11_150 rfl rfl (by decide) rfl e22 dX11_sound_50 ?_
        refine pm_iload_n hC 1 dX11_sound_53 rfl ?_
        obtain ⟨y23, e24⟩ : ∃ y, V0 53 (a1 : Int).toNat = y := ⟨_, rfl⟩
        have b25 := hV0.get 53 (a1 : Int).toNat (lo := 0) (hi := 99) (by decide) (show _ < 9 by omega) rfl
        rw [e24] at b25
        refine pm_iaload (len := 9) (v := y23) hC 53 rfl rfl (by decide) ⟨by omega, by omega⟩ (by decide) e24 dX11_sound_54 ?_
        exact pm_iret hC hR pm_nar0 ⟨y23, rfl, ⟨by omega, by omega⟩, rfl⟩ dX11_sound_55
    · skip
      refine pm_tableIn (tgt := 56) (off := 45) hC ⟨by omega, by omega⟩ dX11_sound_11 (by omega) (by omega) (by rw [c7]; rfl) (by decide) ?_
      refine pm_aload_n hC 0 (by decide) dX11_sound_56 rfl ?_
      rcases hV0.get2 0 8 (lo := 45) (hi := 51) (by decide) (by decide) rfl with e26 | e26
      · skip
        refine pm_getf (v := 45) hC 0 fl_X11_35 rfl rfl (by decide) rfl e26 dX11_sound_57 ?_
        have e27 : V0 45 3 = 48 := hV0.one 45 3 (by decide) (by decide) rfl
        refine pm_getf (v := 48) hC 45 fl_X11_153 rfl rfl (by decide) rfl e27 dX11_sound_60 ?_
        refine pm_iload_n hC 1 dX11_sound_63 rfl ?_
        obtain ⟨y28, e29⟩ : ∃ y, V0 48 (a1 : Int).toNat = y := ⟨_, rfl⟩
        have b30 := hV0.get 48 (a1 : Int).toNat (lo := 0) (hi := 9) (by decide) (show _ < 9 by omega) rfl
        rw [e29] at b30
        refine pm_iaload (len := 9) (v := y28) hC 48 rfl rfl (by decide) ⟨by omega, by omega⟩ (by decide) e29 dX11_sound_64 ?_
        exact pm_iret hC hR pm_nar0 ⟨y28, rfl, ⟨by omega, by omega⟩, rfl⟩ dX11_sound_65
      · skip
        refine pm_getf (v := 51) hC 0 fl_X11_35 rfl rfl (by decide) rfl e26 dX11_sound_57 ?_
        have e31 : V0 51 3 = 54 := hV0.one 51 3 (by decide) (by decide) rfl
        refine pm_getf (v := 54) hC 51 fl_X11_153 rfl rfl (by decide) rfl e31 dX11_sound_60 ?_
        refine pm_iload_n hC 1 dX11_sound_63 rfl ?_
        obtain ⟨y32, e33⟩ : ∃ y, V0 54 (a1 : Int).toNat = y := ⟨_, rfl⟩
        have b34 := hV0.get 54 (a1 : Int).toNat (lo := 0) (hi := 9) (by decide) (show _ < 9 by omega) rfl
        rw [e33] at b34
        refine pm_iaload (len := 9) (v := y32) hC 54 rfl rfl (by decide) ⟨by omega, by omega⟩ (by decide) e33 dX11_sound_64 ?_
        exact pm_iret hC hR pm_nar0 ⟨y32, rfl, ⟨by omega, by omega⟩, rfl⟩ dX11_sound_65
  · skip
    refine pm_iconst (v := (-1)) hC dX11_sound_8 ?_
    exact pm_iret hC hR pm_nar0 ⟨(-1), rfl, ⟨by omega, by omega⟩, rfl⟩ dX11_sound_9
set_option maxHeartbeats 4000000 in
set_option maxRecDepth 100000 in
theorem c_X11_hasScene_0  : pm_K 1 yX11_hasScene cX11_hasScene 1 (some .boolean) (fun av V => av = [(3, 0)] ∧ pm_ok 0 90 V) (fun _ V r V' => ∃ y, r = some (0, y) ∧ (0 ≤ y ∧ y ≤ 1) ∧ V = V') := by
  refine pm_MT.of (by decide) ⟨Nat.le_refl _, by decide⟩ (fun av V h => by rw [h.1]; exact (by decide : pm_words [(3, 0)] ≤ 1)) ?_
  rintro X av V0 hC - hR ⟨rfl, hV0⟩
  change pm_J X 0 [(0, (3, 0))] [] 118 V0
  refine pm_aload_n hC 0 (by decide) dX11_hasScene_0 rfl ?_
  rcases hV0.get2 0 8 (lo := 45) (hi := 51) (by decide) (by decide) rfl with e1 | e1
  · skip
    refine pm_getf (v := 45) hC 0 fl_X11_35 rfl rfl (by decide) rfl e1 dX11_hasScene_1 ?_
    obtain ⟨y2, e3⟩ : ∃ y, V0 45 0 = y := ⟨_, rfl⟩
    have b4 := hV0.get 45 0 (lo := 0) (hi := 9) (by decide) (by decide) rfl
    rw [e3] at b4
    refine pm_getf (v := y2) hC 45 fl_X11_136 rfl rfl (by decide) rfl e3 dX11_hasScene_4 ?_
    refine pm_if_le (tgt := 14) hC ⟨by omega, by omega⟩ dX11_hasScene_7 (by decide) (fun c5 => ?_) (fun c5 => ?_)
    · skip
      refine pm_iconst (v := 0) hC dX11_hasScene_14 ?_
      exact pm_iret hC hR (pm_narZ (by omega)) ⟨0, rfl, ⟨by omega, by omega⟩, rfl⟩ dX11_hasScene_15
    · skip
      refine pm_iconst (v := 1) hC dX11_hasScene_10 ?_
      refine pm_goto (tgt := 15) hC dX11_hasScene_11 (by decide) ?_
      exact pm_iret hC hR (pm_narZ (by omega)) ⟨1, rfl, ⟨by omega, by omega⟩, rfl⟩ dX11_hasScene_15
  · skip
    refine pm_getf (v := 51) hC 0 fl_X11_35 rfl rfl (by decide) rfl e1 dX11_hasScene_1 ?_
    obtain ⟨y6, e7⟩ : ∃ y, V0 51 0 = y := ⟨_, rfl⟩
    have b8 := hV0.get 51 0 (lo := 0) (hi := 9) (by decide) (by decide) rfl
    rw [e7] at b8
    refine pm_getf (v := y6) hC 51 fl_X11_136 rfl rfl (by decide) rfl e7 dX11_hasScene_4 ?_
    refine pm_if_le (tgt := 14) hC ⟨by omega, by omega⟩ dX11_hasScene_7 (by decide) (fun c9 => ?_) (fun c9 => ?_)
    · skip
      refine pm_iconst (v := 0) hC dX11_hasScene_14 ?_
      exact pm_iret hC hR (pm_narZ (by omega)) ⟨0, rfl, ⟨by omega, by omega⟩, rfl⟩ dX11_hasScene_15
    · skip
      refine pm_iconst (v := 1) hC dX11_hasScene_10 ?_
      refine pm_goto (tgt := 15) hC dX11_hasScene_11 (by decide) ?_
      exact pm_iret hC hR (pm_narZ (by omega)) ⟨1, rfl, ⟨by omega, by omega⟩, rfl⟩ dX11_hasScene_15
set_option maxHeartbeats 4000000 in
set_option maxRecDepth 100000 in
theorem c_X11_count_0 (a1 : Int) (h0 : (-2147483648) ≤ a1 ∧ a1 ≤ 2147483647) : pm_K 2 yX11_count cX11_count 2 (some .int) (fun av V => av = [(3, 0), (0, a1)] ∧ pm_ok 0 90 V) (fun _ V r V' => ∃ y, r = some (0, y) ∧ ((-1) ≤ y ∧ y ≤ 500) ∧ V = V') := by
  refine pm_MT.of (by decide) ⟨Nat.le_refl _, by decide⟩ (fun av V h => by rw [h.1]; exact (by decide : pm_words [(3, 0), (0, 0)] ≤ 2)) ?_
  rintro X av V0 hC - hR ⟨rfl, hV0⟩
  change pm_J X 0 [(0, (3, 0)), (1, (0, a1))] [] 118 V0
  refine pm_iload_n hC 1 dX11_count_0 rfl ?_
  rcases (show (a1 < 0 ∨ 7 < a1) ∨ a1 = (0 : Int) ∨ a1 = (1 : Int) ∨ a1 = (2 : Int) ∨ a1 = (3 : Int) ∨ a1 = (4 : Int) ∨ a1 = (5 : Int) ∨ a1 = (6 : Int) ∨ a1 = (7 : Int) by omega) with c1 | c1 | c1 | c1 | c1 | c1 | c1 | c1 | c1
  · skip
    refine pm_tableOut (tgt := 134) hC ⟨by omega, by omega⟩ dX11_count_1 c1 (by decide) ?_
    refine pm_iconst (v := (-1)) hC dX11_count_134 ?_
    exact pm_iret hC hR pm_nar0 ⟨(-1), rfl, ⟨by omega, by omega⟩, rfl⟩ dX11_count_135
  · skip
    refine pm_tableIn (tgt := 48) (off := 47) hC ⟨by omega, by omega⟩ dX11_count_1 (by omega) (by omega) (by rw [c1]; rfl) (by decide) ?_
    refine pm_aload_n hC 0 (by decide) dX11_count_48 rfl ?_
    rcases hV0.get2 0 8 (lo := 45) (hi := 51) (by decide) (by decide) rfl with e2 | e2
    · skip
      refine pm_getf (v := 45) hC 0 fl_X11_35 rfl rfl (by decide) rfl e2 dX11_count_49 ?_
      obtain ⟨y3, e4⟩ : ∃ y, V0 45 0 = y := ⟨_, rfl⟩
      have b5 := hV0.get 45 0 (lo := 0) (hi := 9) (by decide) (by decide) rfl
      rw [e4] at b5
      refine pm_getf (v := y3) hC 45 fl_X11_136 rfl rfl (by decide) rfl e4 dX11_count_52 ?_
      exact pm_iret hC hR pm_nar0 ⟨y3, rfl, ⟨by omega, by omega⟩, rfl⟩ dX11_count_55
    · skip
      refine pm_getf (v := 51) hC 0 fl_X11_35 rfl rfl (by decide) rfl e2 dX11_count_49 ?_
      obtain ⟨y6, e7⟩ : ∃ y, V0 51 0 = y := ⟨_, rfl⟩
      have b8 := hV0.get 51 0 (lo := 0) (hi := 9) (by decide) (by decide) rfl
      rw [e7] at b8
      refine pm_getf (v := y6) hC 51 fl_X11_136 rfl rfl (by decide) rfl e7 dX11_count_52 ?_
      exact pm_iret hC hR pm_nar0 ⟨y6, rfl, ⟨by omega, by omega⟩, rfl⟩ dX11_count_55
  · skip
    refine pm_tableIn (tgt := 56) (off := 55) hC ⟨by omega, by omega⟩ dX11_count_1 (by omega) (by omega) (by rw [c1]; rfl) (by decide) ?_
    refine pm_aload_n hC 0 (by decide) dX11_count_56 rfl ?_
    rcases hV0.get2 0 8 (lo := 45) (hi := 51) (by decide) (by decide) rfl with e9 | e9
    · skip
      refine pm_getf (v := 45) hC 0 fl_X11_35 rfl rfl (by decide) rfl e9 dX11_count_57 ?_
      obtain ⟨y10, e11⟩ : ∃ y, V0 45 10 = y := ⟨_, rfl⟩
      have b12 := hV0.get 45 10 (lo := 0) (hi := 12) (by decide) (by decide) rfl
      rw [e11] at b12
      refine pm_getf (v := y10) hC 45 fl_X11_156 rfl rfl (by decide) rfl e11 dX11_count_60 ?_
      exact pm_iret hC hR pm_nar0 ⟨y10, rfl, ⟨by omega, by omega⟩, rfl⟩ dX11_count_63
    · skip
      refine pm_getf (v := 51) hC 0 fl_X11_35 rfl rfl (by decide) rfl e9 dX11_count_57 ?_
      obtain ⟨y13, e14⟩ : ∃ y, V0 51 10 = y := ⟨_, rfl⟩
      have b15 := hV0.get 51 10 (lo := 0) (hi := 12) (by decide) (by decide) rfl
      rw [e14] at b15
      refine pm_getf (v := y13) hC 51 fl_X11_156 rfl rfl (by decide) rfl e14 dX11_count_60 ?_
      exact pm_iret hC hR pm_nar0 ⟨y13, rfl, ⟨by omega, by omega⟩, rfl⟩ dX11_count_63
  · skip
    refine pm_tableIn (tgt := 64) (off := 63) hC ⟨by omega, by omega⟩ dX11_count_1 (by omega) (by omega) (by rw [c1]; rfl) (by decide) ?_
    refine pm_aload_n hC 0 (by decide) dX11_count_64 rfl ?_
    have e16 : V0 0 3 = 4 := hV0.one 0 3 (by decide) (by decide) rfl
    refine pm_getf (v := 4) hC 0 fl_X11_24 rfl rfl (by decide) rfl e16 dX11_count_65 ?_
    obtain ⟨y17, e18⟩ : ∃ y, V0 4 1 = y := ⟨_, rfl⟩
    have b19 := hV0.get 4 1 (lo := 0) (hi := 10) (by decide) (by decide) rfl
    rw [e18] at b19
    refine pm_getf (v := y17) hC 4 fl_X11_159 rfl rfl (by decide) rfl e18 dX11_count_68 ?_
    exact pm_iret hC hR pm_nar0 ⟨y17, rfl, ⟨by omega, by omega⟩, rfl⟩ dX11_count_71
  · skip
    refine pm_tableIn (tgt := 72) (off := 71) hC ⟨by omega, by omega⟩ dX11_count_1 (by omega) (by omega) (by rw [c1]; rfl) (by decide) ?_
    refine pm_aload_n hC 0 (by decide) dX11_count_72 rfl ?_
    have e20 : V0 0 3 = 4 := hV0.one 0 3 (by decide) (by decide) rfl
    refine pm_getf (v := 4) hC 0 fl_X11_24 rfl rfl (by decide) rfl e20 dX11_count_73 ?_
    obtain ⟨y21, e22⟩ : ∃ y, V0 4 6 = y := ⟨_, rfl⟩
    have b23 := hV0.get 4 6 (lo := 0) (hi := 60) (by decide) (by decide) rfl
    rw [e22] at b23
    refine pm_getf (v := y21) hC 4 fl_X11_162 rfl rfl (by decide) rfl e22 dX11_count_76 ?_
    exact pm_iret hC hR pm_nar0 ⟨y21, rfl, ⟨by omega, by omega⟩, rfl⟩ dX11_count_79
  · skip
    refine pm_tableIn (tgt := 80) (off := 79) hC ⟨by omega, by omega⟩ dX11_count_1 (by omega) (by omega) (by rw [c1]; rfl) (by decide) ?_
    refine pm_aload_n hC 0 (by decide) dX11_count_80 rfl ?_
    rcases hV0.get2 0 10 (lo := 57) (hi := 63) (by decide) (by decide) rfl with e24 | e24
    · skip
      refine pm_getf (v := 57) hC 0 fl_X11_45 rfl rfl (by decide) rfl e24 dX11_count_81 ?_
      obtain ⟨y25, e26⟩ : ∃ y, V0 57 0 = y := ⟨_, rfl⟩
      have b27 := hV0.get 57 0 (lo := 0) (hi := 10) (by decide) (by decide) rfl
      rw [e26] at b27
      refine pm_getf (v := y25) hC 57 fl_X11_139 rfl rfl (by decide) rfl e26 dX11_count_84 ?_
      exact pm_iret hC hR pm_nar0 ⟨y25, rfl, ⟨by omega, by omega⟩, rfl⟩ dX11_count_87
    · skip
      refine pm_getf (v := 63) hC 0 fl_X11_45 rfl rfl (by decide) rfl e24 dX11_count_81 ?_
      obtain ⟨y28, e29⟩ : ∃ y, V0 63 0 = y := ⟨_, rfl⟩
      have b30 := hV0.get 63 0 (lo := 0) (hi := 10) (by decide) (by decide) rfl
      rw [e29] at b30
      refine pm_getf (v := y28) hC 63 fl_X11_139 rfl rfl (by decide) rfl e29 dX11_count_84 ?_
      exact pm_iret hC hR pm_nar0 ⟨y28, rfl, ⟨by omega, by omega⟩, rfl⟩ dX11_count_87
  · skip
    refine pm_tableIn (tgt := 88) (off := 87) hC ⟨by omega, by omega⟩ dX11_count_1 (by omega) (by omega) (by rw [c1]; rfl) (by decide) ?_
    refine pm_aload_n hC 0 (by decide) dX11_count_88 rfl ?_
    refine pm_callV (ci := 11) (as := []) (st := []) hC 0 c_X11_hasScene_0 lm_X11_165 li_X11_hasScene (by decide) (by decide) rfl rfl rfl (by decide) rfl rfl (Nat.le_of_ble_eq_true rfl) ⟨Nat.le_refl _, Or.inl rfl⟩ dX11_count_89 ⟨rfl, hV0⟩ (fun r31 V32 hp33 => ?_)
    obtain ⟨y34, rfl, b35, rfl⟩ := hp33
    change pm_J X 92 [(0, (3, 0)), (1, (0, a1))] [(0, y34)] 118 V0
    refine pm_if_eq (tgt := 105) hC ⟨by omega, by omega⟩ dX11_count_92 (by decide) (fun c36 => ?_) (fun c36 => ?_)
    · skip
      refine pm_iconst (v := 0) hC dX11_count_105 ?_
      exact pm_iret hC hR pm_nar0 ⟨0, rfl, ⟨by omega, by omega⟩, rfl⟩ dX11_count_106
    · skip
      refine pm_aload_n hC 0 (by decide) dX11_count_95 rfl ?_
      rcases hV0.get2 0 8 (lo := 45) (hi := 51) (by decide) (by decide) rfl with e37 | e37
      · skip
        refine pm_getf (v := 45) hC 0 fl_X11_35 rfl rfl (by decide) rfl e37 dX11_count_96 ?_
        obtain ⟨y38, e39⟩ : ∃ y, V0 45 8 = y := ⟨_, rfl⟩
        have b40 := hV0.get 45 8 (lo := 0) (hi := 16) (by decide) (by decide) rfl
        rw [e39] at b40
        refine pm_getf (v := y38) hC 45 fl_X11_126 rfl rfl (by decide) rfl e39 dX11_count_99 ?_
        refine pm_goto (tgt := 106) hC dX11_count_102 (by decide) ?_
        exact pm_iret hC hR pm_nar0 ⟨y38, rfl, ⟨by omega, by omega⟩, rfl⟩ dX11_count_106
      · skip
        refine pm_getf (v := 51) hC 0 fl_X11_35 rfl rfl (by decide) rfl e37 dX11_count_96 ?_
        obtain ⟨y41, e42⟩ : ∃ y, V0 51 8 = y := ⟨_, rfl⟩
        have b43 := hV0.get 51 8 (lo := 0) (hi := 16) (by decide) (by decide) rfl
        rw [e42] at b43
        refine pm_getf (v := y41) hC 51 fl_X11_126 rfl rfl (by decide) rfl e42 dX11_count_99 ?_
        refine pm_goto (tgt := 106) hC dX11_count_102 (by decide) ?_
        exact pm_iret hC hR pm_nar0 ⟨y41, rfl, ⟨by omega, by omega⟩, rfl⟩ dX11_count_106
  · skip
    refine pm_tableIn (tgt := 107) (off := 106) hC ⟨by omega, by omega⟩ dX11_count_1 (by omega) (by omega) (by rw [c1]; rfl) (by decide) ?_
    refine pm_aload_n hC 0 (by decide) dX11_count_107 rfl ?_
    refine pm_callV (ci := 11) (as := []) (st := []) hC 0 c_X11_hasScene_0 lm_X11_165 li_X11_hasScene (by decide) (by decide) rfl rfl rfl (by decide) rfl rfl (Nat.le_of_ble_eq_true rfl) ⟨Nat.le_refl _, Or.inl rfl⟩ dX11_count_108 ⟨rfl, hV0⟩ (fun r44 V45 hp46 => ?_)
    obtain ⟨y47, rfl, b48, rfl⟩ := hp46
    change pm_J X 111 [(0, (3, 0)), (1, (0, a1))] [(0, y47)] 118 V0
    refine pm_if_eq (tgt := 124) hC ⟨by omega, by omega⟩ dX11_count_111 (by decide) (fun c49 => ?_) (fun c49 => ?_)
    · skip
      refine pm_iconst (v := 0) hC dX11_count_124 ?_
      exact pm_iret hC hR pm_nar0 ⟨0, rfl, ⟨by omega, by omega⟩, rfl⟩ dX11_count_125
    · skip
      refine pm_aload_n hC 0 (by decide) dX11_count_114 rfl ?_
      rcases hV0.get2 0 8 (lo := 45) (hi := 51) (by decide) (by decide) rfl with e50 | e50
      · skip
        refine pm_getf (v := 45) hC 0 fl_X11_35 rfl rfl (by decide) rfl e50 dX11_count_115 ?_
        obtain ⟨y51, e52⟩ : ∃ y, V0 45 9 = y := ⟨_, rfl⟩
        have b53 := hV0.get 45 9 (lo := 0) (hi := 99) (by decide) (by decide) rfl
        rw [e52] at b53
        refine pm_getf (v := y51) hC 45 fl_X11_169 rfl rfl (by decide) rfl e52 dX11_count_118 ?_
        refine pm_goto (tgt := 125) hC dX11_count_121 (by decide) ?_
        exact pm_iret hC hR pm_nar0 ⟨y51, rfl, ⟨by omega, by omega⟩, rfl⟩ dX11_count_125
      · skip
        refine pm_getf (v := 51) hC 0 fl_X11_35 rfl rfl (by decide) rfl e50 dX11_count_115 ?_
        obtain ⟨y54, e55⟩ : ∃ y, V0 51 9 = y := ⟨_, rfl⟩
        have b56 := hV0.get 51 9 (lo := 0) (hi := 99) (by decide) (by decide) rfl
        rw [e55] at b56
        refine pm_getf (v := y54) hC 51 fl_X11_169 rfl rfl (by decide) rfl e55 dX11_count_118 ?_
        refine pm_goto (tgt := 125) hC dX11_count_121 (by decide) ?_
        exact pm_iret hC hR pm_nar0 ⟨y54, rfl, ⟨by omega, by omega⟩, rfl⟩ dX11_count_125
  · skip
    refine pm_tableIn (tgt := 126) (off := 125) hC ⟨by omega, by omega⟩ dX11_count_1 (by omega) (by omega) (by rw [c1]; rfl) (by decide) ?_
    refine pm_aload_n hC 0 (by decide) dX11_count_126 rfl ?_
    have e57 : V0 0 0 = 1 := hV0.one 0 0 (by decide) (by decide) rfl
    refine pm_getf (v := 1) hC 0 fl_X11_10 rfl rfl (by decide) rfl e57 dX11_count_127 ?_
    obtain ⟨y58, e59⟩ : ∃ y, V0 1 1 = y := ⟨_, rfl⟩
    have b60 := hV0.get 1 1 (lo := 0) (hi := 500) (by decide) (by decide) rfl
    rw [e59] at b60
    refine pm_getf (v := y58) hC 1 fl_X11_111 rfl rfl (by decide) rfl e59 dX11_count_130 ?_
    exact pm_iret hC hR pm_nar0 ⟨y58, rfl, ⟨by omega, by omega⟩, rfl⟩ dX11_count_133
set_option maxHeartbeats 4000000 in
set_option maxRecDepth 100000 in
theorem c_X11_areChanges (a1 a2 : Int) (h0 : (-2147483648) ≤ a1 ∧ a1 ≤ 2147483647) (h1 : (-2147483648) ≤ a2 ∧ a2 ≤ 2147483647) : pm_K 1 yX11_areChanges cX11_areChanges 2 (some .boolean) (fun av V => av = [(0, a1), (0, a2)] ∧ pm_ok 0 90 V) (fun _ V r V' => ∃ y, r = some (0, y) ∧ (0 ≤ y ∧ y ≤ 1 ∧ (y = 1 → ((-30) ≤ a1 ∧ a1 ≤ 30 ∧ (-30) ≤ a2 ∧ a2 ≤ 30))) ∧ V = V') := by
  refine pm_MT.of (by decide) ⟨Nat.le_refl _, by decide⟩ (fun av V h => by rw [h.1]; exact (by decide : pm_words [(0, 0), (0, 0)] ≤ 2)) ?_
  rintro X av V0 hC - hR ⟨rfl, hV0⟩
  change pm_J X 0 [(0, (0, a1)), (1, (0, a2))] [] 118 V0
  refine pm_iload_n hC 0 dX11_areChanges_0 rfl ?_
  refine pm_bipush (v := (-30)) hC dX11_areChanges_1 (by decide) ?_
  refine pm_icmp_lt (tgt := 28) hC ⟨by omega, by omega⟩ ⟨by decide, by decide⟩ dX11_areChanges_3 (by decide) (fun c1 => ?_) (fun c1 => ?_)
  · skip
    refine pm_iconst (v := 0) hC dX11_areChanges_28 ?_
    exact pm_iret hC hR (pm_narZ (by omega)) ⟨0, rfl, ⟨by omega, by omega, by omega⟩, rfl⟩ dX11_areChanges_29
  · skip
    refine pm_iload_n hC 0 dX11_areChanges_6 rfl ?_
    refine pm_bipush (v := 30) hC dX11_areChanges_7 (by decide) ?_
    refine pm_icmp_gt (tgt := 28) hC ⟨by omega, by omega⟩ ⟨by decide, by decide⟩ dX11_areChanges_9 (by decide) (fun c2 => ?_) (fun c2 => ?_)
    · skip
      refine pm_iconst (v := 0) hC dX11_areChanges_28 ?_
      exact pm_iret hC hR (pm_narZ (by omega)) ⟨0, rfl, ⟨by omega, by omega, by omega⟩, rfl⟩ dX11_areChanges_29
    · skip
      refine pm_iload_n hC 1 dX11_areChanges_12 rfl ?_
      refine pm_bipush (v := (-30)) hC dX11_areChanges_13 (by decide) ?_
      refine pm_icmp_lt (tgt := 28) hC ⟨by omega, by omega⟩ ⟨by decide, by decide⟩ dX11_areChanges_15 (by decide) (fun c3 => ?_) (fun c3 => ?_)
      · skip
        refine pm_iconst (v := 0) hC dX11_areChanges_28 ?_
        exact pm_iret hC hR (pm_narZ (by omega)) ⟨0, rfl, ⟨by omega, by omega, by omega⟩, rfl⟩ dX11_areChanges_29
      · skip
        refine pm_iload_n hC 1 dX11_areChanges_18 rfl ?_
        refine pm_bipush (v := 30) hC dX11_areChanges_19 (by decide) ?_
        refine pm_icmp_gt (tgt := 28) hC ⟨by omega, by omega⟩ ⟨by decide, by decide⟩ dX11_areChanges_21 (by decide) (fun c4 => ?_) (fun c4 => ?_)
        · skip
          refine pm_iconst (v := 0) hC dX11_areChanges_28 ?_
          exact pm_iret hC hR (pm_narZ (by omega)) ⟨0, rfl, ⟨by omega, by omega, by omega⟩, rfl⟩ dX11_areChanges_29
        · skip
          refine pm_iconst (v := 1) hC dX11_areChanges_24 ?_
          refine pm_goto (tgt := 29) hC dX11_areChanges_25 (by decide) ?_
          exact pm_iret hC hR (pm_narZ (by omega)) ⟨1, rfl, ⟨by omega, by omega, by omega⟩, rfl⟩ dX11_areChanges_29
set_option maxHeartbeats 4000000 in
set_option maxRecDepth 100000 in
theorem c_X11_isBelief (a1 : Int) (h0 : (-2147483648) ≤ a1 ∧ a1 ≤ 2147483647) : pm_K 1 yX11_isBelief cX11_isBelief 1 (some .boolean) (fun av V => av = [(0, a1)] ∧ pm_ok 0 90 V) (fun _ V r V' => ∃ y, r = some (0, y) ∧ (0 ≤ y ∧ y ≤ 1 ∧ (y = 1 → (0 ≤ a1 ∧ a1 ≤ 16))) ∧ V = V') := by
  refine pm_MT.of (by decide) ⟨Nat.le_refl _, by decide⟩ (fun av V h => by rw [h.1]; exact (by decide : pm_words [(0, 0)] ≤ 1)) ?_
  rintro X av V0 hC - hR ⟨rfl, hV0⟩
  change pm_J X 0 [(0, (0, a1))] [] 118 V0
  refine pm_iload_n hC 0 dX11_isBelief_0 rfl ?_
  refine pm_if_lt (tgt := 14) hC ⟨by omega, by omega⟩ dX11_isBelief_1 (by decide) (fun c1 => ?_) (fun c1 => ?_)
  · skip
    refine pm_iconst (v := 0) hC dX11_isBelief_14 ?_
    exact pm_iret hC hR (pm_narZ (by omega)) ⟨0, rfl, ⟨by omega, by omega, by omega⟩, rfl⟩ dX11_isBelief_15
  · skip
    refine pm_iload_n hC 0 dX11_isBelief_4 rfl ?_
    refine pm_bipush (v := 16) hC dX11_isBelief_5 (by decide) ?_
    refine pm_icmp_gt (tgt := 14) hC ⟨by omega, by omega⟩ ⟨by decide, by decide⟩ dX11_isBelief_7 (by decide) (fun c2 => ?_) (fun c2 => ?_)
    · skip
      refine pm_iconst (v := 0) hC dX11_isBelief_14 ?_
      exact pm_iret hC hR (pm_narZ (by omega)) ⟨0, rfl, ⟨by omega, by omega, by omega⟩, rfl⟩ dX11_isBelief_15
    · skip
      refine pm_iconst (v := 1) hC dX11_isBelief_10 ?_
      refine pm_goto (tgt := 15) hC dX11_isBelief_11 (by decide) ?_
      exact pm_iret hC hR (pm_narZ (by omega)) ⟨1, rfl, ⟨by omega, by omega, by omega⟩, rfl⟩ dX11_isBelief_15
set_option maxHeartbeats 4000000 in
set_option maxRecDepth 100000 in
theorem c_X7_changePerson_4 (a1 a2 a3 a4 : Int) (h0 : 0 ≤ a1 ∧ a1 ≤ 9) (h1 : (-30) ≤ a2 ∧ a2 ≤ 30) (h2 : (-30) ≤ a3 ∧ a3 ≤ 30) (h3 : 0 ≤ a4 ∧ a4 ≤ 16) : pm_K 1 yX7_changePerson cX7_changePerson 5 none (fun av V => av = [(3, 4), (0, a1), (0, a2), (0, a3), (0, a4)] ∧ pm_ok 0 90 V) (fun _ V r V' => r = none ∧ pm_ok 0 90 V' ∧ pm_fr [5, 6, 7] V V') := by
  refine pm_MT.of (by decide) ⟨Nat.le_refl _, by decide⟩ (fun av V h => by rw [h.1]; exact (by decide : pm_words [(3, 0), (0, 0), (0, 0), (0, 0), (0, 0)] ≤ 5)) ?_
  rintro X av V0 hC - hR ⟨rfl, hV0⟩
  change pm_J X 0 [(0, (3, 4)), (1, (0, a1)), (2, (0, a2)), (3, (0, a3)), (4, (0, a4))] [] 118 V0
  refine pm_aload_n hC 0 (by decide) dX7_changePerson_0 rfl ?_
  have e1 : V0 4 2 = 5 := hV0.one 4 2 (by decide) (by decide) rfl
  refine pm_getf (v := 5) hC 4 fl_X7_19 rfl rfl (by decide) rfl e1 dX7_changePerson_1 ?_
  refine pm_iload_n hC 1 dX7_changePerson_4 rfl ?_
  refine pm_iload_n hC 2 dX7_changePerson_5 rfl ?_
  refine pm_iastore (len := 10) hC 5 rfl rfl (by decide) ⟨by omega, by omega⟩ (by decide) dX7_changePerson_6 ?_
  refine pm_aload_n hC 0 (by decide) dX7_changePerson_7 rfl ?_
  have e2 : V0 4 3 = 6 := hV0.one 4 3 (by decide) (by decide) rfl
  refine pm_getf (v := 6) hC 4 fl_X7_23 rfl rfl (by decide) rfl e2 dX7_changePerson_8 ?_
  refine pm_iload_n hC 1 dX7_changePerson_11 rfl ?_
  refine pm_iload_n hC 3 dX7_changePerson_12 rfl ?_
  refine pm_iastore (len := 10) hC 6 rfl rfl (by decide) ⟨by omega, by omega⟩ (by decide) dX7_changePerson_13 ?_
  refine pm_aload_n hC 0 (by decide) dX7_changePerson_14 rfl ?_
  have e3 : V0 4 4 = 7 := hV0.one 4 4 (by decide) (by decide) rfl
  refine pm_getf (v := 7) hC 4 fl_X7_26 rfl rfl (by decide) rfl e3 dX7_changePerson_15 ?_
  refine pm_iload_n hC 1 dX7_changePerson_18 rfl ?_
  refine pm_iload hC 4 dX7_changePerson_19 rfl ?_
  refine pm_iastore (len := 10) hC 7 rfl rfl (by decide) ⟨by omega, by omega⟩ (by decide) dX7_changePerson_21 ?_
  exact pm_vret hC hR ⟨rfl, (((hV0.put 5 (a1 : Int).toNat (x := a2) (lo := (-30)) (hi := 30) rfl ⟨by omega, by omega⟩).put 6 (a1 : Int).toNat (x := a3) (lo := (-30)) (hi := 30) rfl ⟨by omega, by omega⟩).put 7 (a1 : Int).toNat (x := a4) (lo := 0) (hi := 16) rfl ⟨by omega, by omega⟩), ((((pm_fr.rf (ws := [5, 6, 7]) (V := V0)).up 5 (a1 : Int).toNat a2 rfl).up 6 (a1 : Int).toNat a3 rfl).up 7 (a1 : Int).toNat a4 rfl)⟩ dX7_changePerson_22
set_option maxHeartbeats 4000000 in
set_option maxRecDepth 100000 in
theorem c_X7_addPerson_4 (a1 a2 a3 a4 : Int) (h0 : (-30) ≤ a1 ∧ a1 ≤ 30) (h1 : (-30) ≤ a2 ∧ a2 ≤ 30) (h2 : 0 ≤ a3 ∧ a3 ≤ 16) (h3 : 0 ≤ a4 ∧ a4 ≤ 3) : pm_K 2 yX7_addPerson cX7_addPerson 5 (some .int) (fun av V => av = [(3, 4), (0, a1), (0, a2), (0, a3), (0, a4)] ∧ pm_ok 0 90 V) (fun _ V r V' => ∃ y, r = some (0, y) ∧ ((-1) ≤ y ∧ y ≤ 9) ∧ pm_ok 0 90 V' ∧ pm_fr [4, 5, 6, 7, 8] V V') := by
  refine pm_MT.of (by decide) ⟨Nat.le_refl _, by decide⟩ (fun av V h => by rw [h.1]; exact (by decide : pm_words [(3, 0), (0, 0), (0, 0), (0, 0), (0, 0)] ≤ 5)) ?_
  rintro X av V0 hC - hR ⟨rfl, hV0⟩
  change pm_J X 0 [(0, (3, 4)), (1, (0, a1)), (2, (0, a2)), (3, (0, a3)), (4, (0, a4))] [] 118 V0
  refine pm_aload_n hC 0 (by decide) dX7_addPerson_0 rfl ?_
  obtain ⟨y1, e2⟩ : ∃ y, V0 4 1 = y := ⟨_, rfl⟩
  have b3 := hV0.get 4 1 (lo := 0) (hi := 10) (by decide) (by decide) rfl
  rw [e2] at b3
  refine pm_getf (v := y1) hC 4 fl_X7_15 rfl rfl (by decide) rfl e2 dX7_addPerson_1 ?_
  refine pm_bipush (v := 10) hC dX7_addPerson_4 (by decide) ?_
  refine pm_icmp_lt (tgt := 11) hC ⟨by omega, by omega⟩ ⟨by decide, by decide⟩ dX7_addPerson_6 (by decide) (fun c4 => ?_) (fun c4 => ?_)
  · skip
    refine pm_aload_n hC 0 (by decide) dX7_addPerson_11 rfl ?_
    have e5 : V0 4 5 = 8 := hV0.one 4 5 (by decide) (by decide) rfl
    refine pm_getf (v := 8) hC 4 fl_X7_29 rfl rfl (by decide) rfl e5 dX7_addPerson_12 ?_
    refine pm_aload_n hC 0 (by decide) dX7_addPerson_15 rfl ?_
    refine pm_getf (v := y1) hC 4 fl_X7_15 rfl rfl (by decide) rfl e2 dX7_addPerson_16 ?_
    refine pm_iload hC 4 dX7_addPerson_19 rfl ?_
    refine pm_iastore (len := 10) hC 8 rfl rfl (by decide) ⟨by omega, by omega⟩ (by decide) dX7_addPerson_21 ?_
    refine pm_aload_n hC 0 (by decide) dX7_addPerson_22 rfl ?_
    refine pm_aload_n hC 0 (by decide) dX7_addPerson_23 rfl ?_
    refine pm_getf (v := y1) hC 4 fl_X7_15 rfl rfl (by decide) rfl e2 dX7_addPerson_24 ?_
    refine pm_iload_n hC 1 dX7_addPerson_27 rfl ?_
    refine pm_iload_n hC 2 dX7_addPerson_28 rfl ?_
    refine pm_iload_n hC 3 dX7_addPerson_29 rfl ?_
    refine pm_callV (ci := 7) (as := [(0, y1), (0, a1), (0, a2), (0, a3)]) (st := []) hC 4 (c_X7_changePerson_4 y1 a1 a2 a3 ⟨by omega, by omega⟩ ⟨by omega, by omega⟩ ⟨by omega, by omega⟩ ⟨by omega, by omega⟩) lm_X7_55 li_X7_changePerson (by decide) (by decide) rfl rfl rfl (by decide) rfl rfl (Nat.le_of_ble_eq_true rfl) ⟨Nat.le_refl _, Or.inl rfl⟩ dX7_addPerson_30 ⟨rfl, (hV0.put 8 (y1 : Int).toNat (x := a4) (lo := 0) (hi := 3) rfl ⟨by omega, by omega⟩)⟩ (fun r6 V7 hp8 => ?_)
    obtain ⟨rfl, hV9, hF10⟩ := hp8
    change pm_J X 33 [(0, (3, 4)), (1, (0, a1)), (2, (0, a2)), (3, (0, a3)), (4, (0, a4))] [] 118 V7
    have hF11 := pm_fr.tr ((pm_fr.rf (ws := [4, 5, 6, 7, 8]) (V := V0)).up 8 (y1 : Int).toNat a4 rfl) hF10 (by decide)
    have e12 : V7 4 1 = y1 := by rw [hF10 4 (by decide)]; exact e2
    have e13 : V7 4 5 = 8 := by rw [hF10 4 (by decide)]; exact e5
    refine pm_aload_n hC 0 (by decide) dX7_addPerson_33 rfl ?_
    refine pm_dup hC rfl dX7_addPerson_34 ?_
    refine pm_getf (v := y1) hC 4 fl_X7_15 rfl rfl (by decide) rfl e12 dX7_addPerson_35 ?_
    refine pm_iconst (v := 1) hC dX7_addPerson_38 ?_
    refine pm_iadd hC dX7_addPerson_39 ?_
    refine pm_putf hC 4 fl_X7_15 rfl rfl rfl (by decide) rfl trivial dX7_addPerson_40 ?_
    refine pm_aload_n hC 0 (by decide) dX7_addPerson_43 rfl ?_
    refine pm_getf (v := (y1 + 1)) hC 4 fl_X7_15 rfl rfl (by decide) rfl rfl dX7_addPerson_44 ?_
    refine pm_iconst (v := 1) hC dX7_addPerson_47 ?_
    refine pm_isub hC dX7_addPerson_48 ?_
    exact pm_iret hC hR pm_nar0 ⟨((y1 + 1) - 1), rfl, ⟨by omega, by omega⟩, (hV9.put 4 1 (x := (y1 + 1)) (lo := 0) (hi := 10) rfl ⟨by omega, by omega⟩), (hF11.up 4 1 (y1 + 1) rfl)⟩ dX7_addPerson_49
  · skip
    refine pm_iconst (v := (-1)) hC dX7_addPerson_9 ?_
    exact pm_iret hC hR pm_nar0 ⟨(-1), rfl, ⟨by omega, by omega⟩, hV0, (pm_fr.rf (ws := [4, 5, 6, 7, 8]) (V := V0))⟩ dX7_addPerson_10
set_option maxHeartbeats 4000000 in
set_option maxRecDepth 100000 in
theorem c_X11_person_0 (a1 a2 a3 : Int) (h0 : (-2147483648) ≤ a1 ∧ a1 ≤ 2147483647) (h1 : (-2147483648) ≤ a2 ∧ a2 ≤ 2147483647) (h2 : (-2147483648) ≤ a3 ∧ a3 ≤ 2147483647) : pm_K 3 yX11_person cX11_person 5 (some .int) (fun av V => av = [(3, 0), (0, a1), (0, a2), (0, a3)] ∧ pm_ok 0 90 V) (fun _ V r V' => ∃ y, r = some (0, y) ∧ ((-1) ≤ y ∧ y ≤ 9) ∧ pm_ok 0 90 V' ∧ pm_fr [4, 5, 6, 7, 8] V V') := by
  refine pm_MT.of (by decide) ⟨Nat.le_refl _, by decide⟩ (fun av V h => by rw [h.1]; exact (by decide : pm_words [(3, 0), (0, 0), (0, 0), (0, 0)] ≤ 5)) ?_
  rintro X av V0 hC - hR ⟨rfl, hV0⟩
  change pm_J X 0 [(0, (3, 0)), (1, (0, a1)), (2, (0, a2)), (3, (0, a3))] [] 118 V0
  refine pm_iload_n hC 1 dX11_person_0 rfl ?_
  refine pm_iload_n hC 2 dX11_person_1 rfl ?_
  refine pm_callS (as := [(0, a1), (0, a2)]) (st := []) hC (c_X11_areChanges a1 a2 ⟨by omega, by omega⟩ ⟨by omega, by omega⟩) lm_X11_172 ls_X11_areChanges (by decide) (by decide) rfl rfl (Nat.le_of_ble_eq_true rfl) ⟨Nat.le_refl _, Or.inl rfl⟩ dX11_person_2 ⟨rfl, hV0⟩ (fun r1 V2 hp3 => ?_)
  obtain ⟨y4, rfl, b5, rfl⟩ := hp3
  change pm_J X 5 [(0, (3, 0)), (1, (0, a1)), (2, (0, a2)), (3, (0, a3))] [(0, y4)] 118 V0
  refine pm_if_eq (tgt := 34) hC ⟨by omega, by omega⟩ dX11_person_5 (by decide) (fun c6 => ?_) (fun c6 => ?_)
  · skip
    refine pm_iconst (v := 0) hC dX11_person_34 ?_
    refine pm_istore (lv' := [(4, (0, 0)), (0, (3, 0)), (1, (0, a1)), (2, (0, a2)), (3, (0, a3))]) hC dX11_person_35 (by decide) rfl ?_
    refine pm_aload_n hC 1 (by decide) dX11_person_37 rfl ?_
    refine pm_callV (ci := 11) (as := []) (st := []) hC 0 c_X11_hasScene_0 lm_X11_165 li_X11_hasScene (by decide) (by decide) rfl rfl rfl (by decide) rfl rfl (Nat.le_of_ble_eq_true rfl) ⟨Nat.le_refl _, Or.inl rfl⟩ dX11_person_38 ⟨rfl, hV0⟩ (fun r7 V8 hp9 => ?_)
    obtain ⟨y10, rfl, b11, rfl⟩ := hp9
    change pm_J X 41 [(4, (0, 0)), (0, (3, 0)), (1, (0, a1)), (2, (0, a2)), (3, (0, a3))] [(0, y10)] 118 V0
    refine pm_if_eq (tgt := 61) hC ⟨by omega, by omega⟩ dX11_person_41 (by decide) (fun c12 => ?_) (fun c12 => ?_)
    · skip
      refine pm_iconst (v := (-1)) hC dX11_person_61 ?_
      exact pm_iret hC hR pm_nar0 ⟨(-1), rfl, ⟨by omega, by omega⟩, hV0, (pm_fr.rf (ws := [4, 5, 6, 7, 8]) (V := V0))⟩ dX11_person_62
    · skip
      refine pm_iload hC 0 dX11_person_44 rfl ?_
      refine pm_if_eq (tgt := 61) hC ⟨by decide, by decide⟩ dX11_person_46 (by decide) (fun c13 => ?_) (fun c13 => ?_)
      · skip
        refine pm_iconst (v := (-1)) hC dX11_person_61 ?_
        exact pm_iret hC hR pm_nar0 ⟨(-1), rfl, ⟨by omega, by omega⟩, hV0, (pm_fr.rf (ws := [4, 5, 6, 7, 8]) (V := V0))⟩ dX11_person_62
      · skip
        exfalso; omega
  · skip
    refine pm_iload_n hC 3 dX11_person_8 rfl ?_
    refine pm_if_lt (tgt := 34) hC ⟨by omega, by omega⟩ dX11_person_9 (by decide) (fun c14 => ?_) (fun c14 => ?_)
    · skip
      refine pm_iconst (v := 0) hC dX11_person_34 ?_
      refine pm_istore (lv' := [(4, (0, 0)), (0, (3, 0)), (1, (0, a1)), (2, (0, a2)), (3, (0, a3))]) hC dX11_person_35 (by decide) rfl ?_
      refine pm_aload_n hC 1 (by decide) dX11_person_37 rfl ?_
      refine pm_callV (ci := 11) (as := []) (st := []) hC 0 c_X11_hasScene_0 lm_X11_165 li_X11_hasScene (by decide) (by decide) rfl rfl rfl (by decide) rfl rfl (Nat.le_of_ble_eq_true rfl) ⟨Nat.le_refl _, Or.inl rfl⟩ dX11_person_38 ⟨rfl, hV0⟩ (fun r15 V16 hp17 => ?_)
      obtain ⟨y18, rfl, b19, rfl⟩ := hp17
      change pm_J X 41 [(4, (0, 0)), (0, (3, 0)), (1, (0, a1)), (2, (0, a2)), (3, (0, a3))] [(0, y18)] 118 V0
      refine pm_if_eq (tgt := 61) hC ⟨by omega, by omega⟩ dX11_person_41 (by decide) (fun c20 => ?_) (fun c20 => ?_)
      · skip
        refine pm_iconst (v := (-1)) hC dX11_person_61 ?_
        exact pm_iret hC hR pm_nar0 ⟨(-1), rfl, ⟨by omega, by omega⟩, hV0, (pm_fr.rf (ws := [4, 5, 6, 7, 8]) (V := V0))⟩ dX11_person_62
      · skip
        refine pm_iload hC 0 dX11_person_44 rfl ?_
        refine pm_if_eq (tgt := 61) hC ⟨by decide, by decide⟩ dX11_person_46 (by decide) (fun c21 => ?_) (fun c21 => ?_)
        · skip
          refine pm_iconst (v := (-1)) hC dX11_person_61 ?_
          exact pm_iret hC hR pm_nar0 ⟨(-1), rfl, ⟨by omega, by omega⟩, hV0, (pm_fr.rf (ws := [4, 5, 6, 7, 8]) (V := V0))⟩ dX11_person_62
        · skip
          exfalso; omega
    · skip
      refine pm_iload_n hC 3 dX11_person_12 rfl ?_
      refine pm_bipush (v := 100) hC dX11_person_13 (by decide) ?_
      refine pm_idiv hC ⟨by omega, by omega, by omega⟩ ⟨by decide, by decide, by decide⟩ dX11_person_15 ?_
      refine pm_iconst (v := 3) hC dX11_person_16 ?_
      refine pm_icmp_gt (tgt := 34) hC ⟨by omega, by omega⟩ ⟨by decide, by decide⟩ dX11_person_17 (by decide) (fun c22 => ?_) (fun c22 => ?_)
      · skip
        refine pm_iconst (v := 0) hC dX11_person_34 ?_
        refine pm_istore (lv' := [(4, (0, 0)), (0, (3, 0)), (1, (0, a1)), (2, (0, a2)), (3, (0, a3))]) hC dX11_person_35 (by decide) rfl ?_
        refine pm_aload_n hC 1 (by decide) dX11_person_37 rfl ?_
        refine pm_callV (ci := 11) (as := []) (st := []) hC 0 c_X11_hasScene_0 lm_X11_165 li_X11_hasScene (by decide) (by decide) rfl rfl rfl (by decide) rfl rfl (Nat.le_of_ble_eq_true rfl) ⟨Nat.le_refl _, Or.inl rfl⟩ dX11_person_38 ⟨rfl, hV0⟩ (fun r23 V24 hp25 => ?_)
        obtain ⟨y26, rfl, b27, rfl⟩ := hp25
        change pm_J X 41 [(4, (0, 0)), (0, (3, 0)), (1, (0, a1)), (2, (0, a2)), (3, (0, a3))] [(0, y26)] 118 V0
        refine pm_if_eq (tgt := 61) hC ⟨by omega, by omega⟩ dX11_person_41 (by decide) (fun c28 => ?_) (fun c28 => ?_)
        · skip
          refine pm_iconst (v := (-1)) hC dX11_person_61 ?_
          exact pm_iret hC hR pm_nar0 ⟨(-1), rfl, ⟨by omega, by omega⟩, hV0, (pm_fr.rf (ws := [4, 5, 6, 7, 8]) (V := V0))⟩ dX11_person_62
        · skip
          refine pm_iload hC 0 dX11_person_44 rfl ?_
          refine pm_if_eq (tgt := 61) hC ⟨by decide, by decide⟩ dX11_person_46 (by decide) (fun c29 => ?_) (fun c29 => ?_)
          · skip
            refine pm_iconst (v := (-1)) hC dX11_person_61 ?_
            exact pm_iret hC hR pm_nar0 ⟨(-1), rfl, ⟨by omega, by omega⟩, hV0, (pm_fr.rf (ws := [4, 5, 6, 7, 8]) (V := V0))⟩ dX11_person_62
          · skip
            exfalso; omega
      · skip
        refine pm_iload_n hC 3 dX11_person_20 rfl ?_
        refine pm_bipush (v := 100) hC dX11_person_21 (by decide) ?_
        refine pm_irem hC ⟨by omega, by omega, by omega⟩ ⟨by decide, by decide, by decide⟩ dX11_person_23 ?_
        refine pm_callS (as := [(0, (a3 % 100))]) (st := []) hC (c_X11_isBelief (a3 % 100) ⟨by omega, by omega⟩) lm_X11_176 ls_X11_isBelief (by decide) (by decide) rfl rfl (Nat.le_of_ble_eq_true rfl) ⟨Nat.le_refl _, Or.inl rfl⟩ dX11_person_24 ⟨rfl, hV0⟩ (fun r30 V31 hp32 => ?_)
        obtain ⟨y33, rfl, b34, rfl⟩ := hp32
        change pm_J X 27 [(0, (3, 0)), (1, (0, a1)), (2, (0, a2)), (3, (0, a3))] [(0, y33)] 118 V0
        refine pm_if_eq (tgt := 34) hC ⟨by omega, by omega⟩ dX11_person_27 (by decide) (fun c35 => ?_) (fun c35 => ?_)
        · skip
          refine pm_iconst (v := 0) hC dX11_person_34 ?_
          refine pm_istore (lv' := [(4, (0, 0)), (0, (3, 0)), (1, (0, a1)), (2, (0, a2)), (3, (0, a3))]) hC dX11_person_35 (by decide) rfl ?_
          refine pm_aload_n hC 1 (by decide) dX11_person_37 rfl ?_
          refine pm_callV (ci := 11) (as := []) (st := []) hC 0 c_X11_hasScene_0 lm_X11_165 li_X11_hasScene (by decide) (by decide) rfl rfl rfl (by decide) rfl rfl (Nat.le_of_ble_eq_true rfl) ⟨Nat.le_refl _, Or.inl rfl⟩ dX11_person_38 ⟨rfl, hV0⟩ (fun r36 V37 hp38 => ?_)
          obtain ⟨y39, rfl, b40, rfl⟩ := hp38
          change pm_J X 41 [(4, (0, 0)), (0, (3, 0)), (1, (0, a1)), (2, (0, a2)), (3, (0, a3))] [(0, y39)] 118 V0
          refine pm_if_eq (tgt := 61) hC ⟨by omega, by omega⟩ dX11_person_41 (by decide) (fun c41 => ?_) (fun c41 => ?_)
          · skip
            refine pm_iconst (v := (-1)) hC dX11_person_61 ?_
            exact pm_iret hC hR pm_nar0 ⟨(-1), rfl, ⟨by omega, by omega⟩, hV0, (pm_fr.rf (ws := [4, 5, 6, 7, 8]) (V := V0))⟩ dX11_person_62
          · skip
            refine pm_iload hC 0 dX11_person_44 rfl ?_
            refine pm_if_eq (tgt := 61) hC ⟨by decide, by decide⟩ dX11_person_46 (by decide) (fun c42 => ?_) (fun c42 => ?_)
            · skip
              refine pm_iconst (v := (-1)) hC dX11_person_61 ?_
              exact pm_iret hC hR pm_nar0 ⟨(-1), rfl, ⟨by omega, by omega⟩, hV0, (pm_fr.rf (ws := [4, 5, 6, 7, 8]) (V := V0))⟩ dX11_person_62
            · skip
              exfalso; omega
        · skip
          refine pm_iconst (v := 1) hC dX11_person_30 ?_
          refine pm_goto (tgt := 35) hC dX11_person_31 (by decide) ?_
          refine pm_istore (lv' := [(4, (0, 1)), (0, (3, 0)), (1, (0, a1)), (2, (0, a2)), (3, (0, a3))]) hC dX11_person_35 (by decide) rfl ?_
          refine pm_aload_n hC 1 (by decide) dX11_person_37 rfl ?_
          refine pm_callV (ci := 11) (as := []) (st := []) hC 0 c_X11_hasScene_0 lm_X11_165 li_X11_hasScene (by decide) (by decide) rfl rfl rfl (by decide) rfl rfl (Nat.le_of_ble_eq_true rfl) ⟨Nat.le_refl _, Or.inl rfl⟩ dX11_person_38 ⟨rfl, hV0⟩ (fun r43 V44 hp45 => ?_)
          obtain ⟨y46, rfl, b47, rfl⟩ := hp45
          change pm_J X 41 [(4, (0, 1)), (0, (3, 0)), (1, (0, a1)), (2, (0, a2)), (3, (0, a3))] [(0, y46)] 118 V0
          refine pm_if_eq (tgt := 61) hC ⟨by omega, by omega⟩ dX11_person_41 (by decide) (fun c48 => ?_) (fun c48 => ?_)
          · skip
            refine pm_iconst (v := (-1)) hC dX11_person_61 ?_
            exact pm_iret hC hR pm_nar0 ⟨(-1), rfl, ⟨by omega, by omega⟩, hV0, (pm_fr.rf (ws := [4, 5, 6, 7, 8]) (V := V0))⟩ dX11_person_62
          · skip
            refine pm_iload hC 0 dX11_person_44 rfl ?_
            refine pm_if_eq (tgt := 61) hC ⟨by decide, by decide⟩ dX11_person_46 (by decide) (fun c49 => ?_) (fun c49 => ?_)
            · skip
              exfalso; omega
            · skip
              refine pm_aload_n hC 1 (by decide) dX11_person_49 rfl ?_
              have e50 : V0 0 3 = 4 := hV0.one 0 3 (by decide) (by decide) rfl
              refine pm_getf (v := 4) hC 0 fl_X11_24 rfl rfl (by decide) rfl e50 dX11_person_50 ?_
              obtain ⟨y51, e52⟩ : ∃ y, V0 4 1 = y := ⟨_, rfl⟩
              have b53 := hV0.get 4 1 (lo := 0) (hi := 10) (by decide) (by decide) rfl
              rw [e52] at b53
              refine pm_getf (v := y51) hC 4 fl_X11_159 rfl rfl (by decide) rfl e52 dX11_person_53 ?_
              refine pm_bipush (v := 10) hC dX11_person_56 (by decide) ?_
              refine pm_icmp_lt (tgt := 63) hC ⟨by omega, by omega⟩ ⟨by decide, by decide⟩ dX11_person_58 (by decide) (fun c54 => ?_) (fun c54 => ?_)
              · skip
                refine pm_aload_n hC 1 (by decide) dX11_person_63 rfl ?_
                refine pm_getf (v := 4) hC 0 fl_X11_24 rfl rfl (by decide) rfl e50 dX11_person_64 ?_
                refine pm_iload_n hC 2 dX11_person_67 rfl ?_
                refine pm_iload_n hC 3 dX11_person_68 rfl ?_
                refine pm_iload_n hC 4 dX11_person_69 rfl ?_
                refine pm_bipush (v := 100) hC dX11_person_70 (by decide) ?_
                refine pm_irem hC ⟨by omega, by omega, by omega⟩ ⟨by decide, by decide, by decide⟩ dX11_person_72 ?_
                refine pm_iload_n hC 4 dX11_person_73 rfl ?_
                refine pm_bipush (v := 100) hC dX11_person_74 (by decide) ?_
                refine pm_idiv hC ⟨by omega, by omega, by omega⟩ ⟨by decide, by decide, by decide⟩ dX11_person_76 ?_
                refine pm_callV (ci := 7) (as := [(0, a1), (0, a2), (0, (a3 % 100)), (0, (a3 / 100))]) (st := []) hC 4 (c_X7_addPerson_4 a1 a2 (a3 % 100) (a3 / 100) ⟨by omega, by omega⟩ ⟨by omega, by omega⟩ ⟨by omega, by omega⟩ ⟨by omega, by omega⟩) lm_X11_179 li_X7_addPerson (by decide) (by decide) rfl rfl rfl (by decide) rfl rfl (Nat.le_of_ble_eq_true rfl) ⟨Nat.le_refl _, Or.inl rfl⟩ dX11_person_77 ⟨rfl, hV0⟩ (fun r55 V56 hp57 => ?_)
                obtain ⟨y58, rfl, b59, hV60, hF61⟩ := hp57
                change pm_J X 80 [(4, (0, 1)), (0, (3, 0)), (1, (0, a1)), (2, (0, a2)), (3, (0, a3))] [(0, y58)] 118 V56
                have hF62 := pm_fr.tr (pm_fr.rf (ws := [4, 5, 6, 7, 8]) (V := V0)) hF61 (by decide)
                have e63 : V56 0 3 = 4 := by rw [hF61 0 (by decide)]; exact e50
                exact pm_iret hC hR pm_nar0 ⟨y58, rfl, ⟨by omega, by omega⟩, hV60, hF62⟩ dX11_person_80
              · skip
                refine pm_iconst (v := (-1)) hC dX11_person_61 ?_
                exact pm_iret hC hR pm_nar0 ⟨(-1), rfl, ⟨by omega, by omega⟩, hV0, (pm_fr.rf (ws := [4, 5, 6, 7, 8]) (V := V0))⟩ dX11_person_62
set_option maxHeartbeats 4000000 in
set_option maxRecDepth 100000 in
theorem c_X11_isPerson_0 (a1 : Int) (h0 : (-2147483648) ≤ a1 ∧ a1 ≤ 2147483647) : pm_K 1 yX11_isPerson cX11_isPerson 2 (some .boolean) (fun av V => av = [(3, 0), (0, a1)] ∧ pm_ok 0 90 V) (fun _ V r V' => ∃ y, r = some (0, y) ∧ (0 ≤ y ∧ y ≤ 1 ∧ (y = 1 → (0 ≤ a1 ∧ a1 ≤ 9))) ∧ V = V') := by
  refine pm_MT.of (by decide) ⟨Nat.le_refl _, by decide⟩ (fun av V h => by rw [h.1]; exact (by decide : pm_words [(3, 0), (0, 0)] ≤ 2)) ?_
  rintro X av V0 hC - hR ⟨rfl, hV0⟩
  change pm_J X 0 [(0, (3, 0)), (1, (0, a1))] [] 118 V0
  refine pm_iload_n hC 1 dX11_isPerson_0 rfl ?_
  refine pm_if_lt (tgt := 19) hC ⟨by omega, by omega⟩ dX11_isPerson_1 (by decide) (fun c1 => ?_) (fun c1 => ?_)
  · skip
    refine pm_iconst (v := 0) hC dX11_isPerson_19 ?_
    exact pm_iret hC hR (pm_narZ (by omega)) ⟨0, rfl, ⟨by omega, by omega, by omega⟩, rfl⟩ dX11_isPerson_20
  · skip
    refine pm_iload_n hC 1 dX11_isPerson_4 rfl ?_
    refine pm_aload_n hC 0 (by decide) dX11_isPerson_5 rfl ?_
    have e2 : V0 0 3 = 4 := hV0.one 0 3 (by decide) (by decide) rfl
    refine pm_getf (v := 4) hC 0 fl_X11_24 rfl rfl (by decide) rfl e2 dX11_isPerson_6 ?_
    obtain ⟨y3, e4⟩ : ∃ y, V0 4 1 = y := ⟨_, rfl⟩
    have b5 := hV0.get 4 1 (lo := 0) (hi := 10) (by decide) (by decide) rfl
    rw [e4] at b5
    refine pm_getf (v := y3) hC 4 fl_X11_159 rfl rfl (by decide) rfl e4 dX11_isPerson_9 ?_
    refine pm_icmp_ge (tgt := 19) hC ⟨by omega, by omega⟩ ⟨by omega, by omega⟩ dX11_isPerson_12 (by decide) (fun c6 => ?_) (fun c6 => ?_)
    · skip
      refine pm_iconst (v := 0) hC dX11_isPerson_19 ?_
      exact pm_iret hC hR (pm_narZ (by omega)) ⟨0, rfl, ⟨by omega, by omega, by omega⟩, rfl⟩ dX11_isPerson_20
    · skip
      refine pm_iconst (v := 1) hC dX11_isPerson_15 ?_
      refine pm_goto (tgt := 20) hC dX11_isPerson_16 (by decide) ?_
      exact pm_iret hC hR (pm_narZ (by omega)) ⟨1, rfl, ⟨by omega, by omega, by omega⟩, rfl⟩ dX11_isPerson_20
set_option maxHeartbeats 4000000 in
set_option maxRecDepth 100000 in
theorem c_X11_who_0 (a1 a2 : Int) (h0 : (-2147483648) ≤ a1 ∧ a1 ≤ 2147483647) (h1 : (-2147483648) ≤ a2 ∧ a2 ≤ 2147483647) : pm_K 2 yX11_who cX11_who 3 (some .int) (fun av V => av = [(3, 0), (0, a1), (0, a2)] ∧ pm_ok 0 90 V) (fun _ V r V' => ∃ y, r = some (0, y) ∧ ((-2147483648) ≤ y ∧ y ≤ 30) ∧ V = V') := by
  refine pm_MT.of (by decide) ⟨Nat.le_refl _, by decide⟩ (fun av V h => by rw [h.1]; exact (by decide : pm_words [(3, 0), (0, 0), (0, 0)] ≤ 3)) ?_
  rintro X av V0 hC - hR ⟨rfl, hV0⟩
  change pm_J X 0 [(0, (3, 0)), (1, (0, a1)), (2, (0, a2))] [] 118 V0
  refine pm_aload_n hC 0 (by decide) dX11_who_0 rfl ?_
  refine pm_iload_n hC 1 dX11_who_1 rfl ?_
  refine pm_callV (ci := 11) (as := [(0, a1)]) (st := []) hC 0 (c_X11_isPerson_0 a1 ⟨by omega, by omega⟩) lm_X11_183 li_X11_isPerson (by decide) (by decide) rfl rfl rfl (by decide) rfl rfl (Nat.le_of_ble_eq_true rfl) ⟨Nat.le_refl _, Or.inl rfl⟩ dX11_who_2 ⟨rfl, hV0⟩ (fun r1 V2 hp3 => ?_)
  obtain ⟨y4, rfl, b5, rfl⟩ := hp3
  change pm_J X 5 [(0, (3, 0)), (1, (0, a1)), (2, (0, a2))] [(0, y4)] 118 V0
  refine pm_if_ne (tgt := 11) hC ⟨by omega, by omega⟩ dX11_who_5 (by decide) (fun c6 => ?_) (fun c6 => ?_)
  · skip
    refine pm_iload_n hC 2 dX11_who_11 rfl ?_
    rcases (show (a2 < 0 ∨ 3 < a2) ∨ a2 = (0 : Int) ∨ a2 = (1 : Int) ∨ a2 = (2 : Int) ∨ a2 = (3 : Int) by omega) with c7 | c7 | c7 | c7 | c7
    · skip
      refine pm_tableOut (tgt := 84) hC ⟨by omega, by omega⟩ dX11_who_12 c7 (by decide) ?_
      refine pm_ldc (v := (-2147483648)) hC 3153 dX11_who_84 (by decide +kernel) ?_
      exact pm_iret hC hR pm_nar0 ⟨(-2147483648), rfl, ⟨by omega, by omega⟩, rfl⟩ dX11_who_86
    · skip
      refine pm_tableIn (tgt := 44) (off := 32) hC ⟨by omega, by omega⟩ dX11_who_12 (by omega) (by omega) (by rw [c7]; rfl) (by decide) ?_
      refine pm_aload_n hC 0 (by decide) dX11_who_44 rfl ?_
      have e8 : V0 0 3 = 4 := hV0.one 0 3 (by decide) (by decide) rfl
      refine pm_getf (v := 4) hC 0 fl_X11_24 rfl rfl (by decide) rfl e8 dX11_who_45 ?_
      have e9 : V0 4 2 = 5 := hV0.one 4 2 (by decide) (by decide) rfl
      refine pm_getf (v := 5) hC 4 fl_X11_186 rfl rfl (by decide) rfl e9 dX11_who_48 ?_
      refine pm_iload_n hC 1 dX11_who_51 rfl ?_
      obtain ⟨y10, e11⟩ : ∃ y, V0 5 (a1 : Int).toNat = y := ⟨_, rfl⟩
      have b12 := hV0.get 5 (a1 : Int).toNat (lo := (-30)) (hi := 30) (by decide) (show _ < 10 by omega) rfl
      rw [e11] at b12
      refine pm_iaload (len := 10) (v := y10) hC 5 rfl rfl (by decide) ⟨by omega, by omega⟩ (by decide) e11 dX11_who_52 ?_
      exact pm_iret hC hR pm_nar0 ⟨y10, rfl, ⟨by omega, by omega⟩, rfl⟩ dX11_who_53
    · skip
      refine pm_tableIn (tgt := 54) (off := 42) hC ⟨by omega, by omega⟩ dX11_who_12 (by omega) (by omega) (by rw [c7]; rfl) (by decide) ?_
      refine pm_aload_n hC 0 (by decide) dX11_who_54 rfl ?_
      have e13 : V0 0 3 = 4 := hV0.one 0 3 (by decide) (by decide) rfl
      refine pm_getf (v := 4) hC 0 fl_X11_24 rfl rfl (by decide) rfl e13 dX11_who_55 ?_
      have e14 : V0 4 3 = 6 := hV0.one 4 3 (by decide) (by decide) rfl
      refine pm_getf (v := 6) hC 4 fl_X11_189 rfl rfl (by decide) rfl e14 dX11_who_58 ?_
      refine pm_iload_n hC 1 dX11_who_61 rfl ?_
      obtain ⟨y15, e16⟩ : ∃ y, V0 6 (a1 : Int).toNat = y := ⟨_, rfl⟩
      have b17 := hV0.get 6 (a1 : Int).toNat (lo := (-30)) (hi := 30) (by decide) (show _ < 10 by omega) rfl
      rw [e16] at b17
      refine pm_iaload (len := 10) (v := y15) hC 6 rfl rfl (by decide) ⟨by omega, by omega⟩ (by decide) e16 dX11_who_62 ?_
      exact pm_iret hC hR pm_nar0 ⟨y15, rfl, ⟨by omega, by omega⟩, rfl⟩ dX11_who_63
    · skip
      refine pm_tableIn (tgt := 64) (off := 52) hC ⟨by omega, by omega⟩ dX11_who_12 (by omega) (by omega) (by rw [c7]; rfl) (by decide) ?_
      refine pm_aload_n hC 0 (by decide) dX11_who_64 rfl ?_
      have e18 : V0 0 3 = 4 := hV0.one 0 3 (by decide) (by decide) rfl
      refine pm_getf (v := 4) hC 0 fl_X11_24 rfl rfl (by decide) rfl e18 dX11_who_65 ?_
      have e19 : V0 4 4 = 7 := hV0.one 4 4 (by decide) (by decide) rfl
      refine pm_getf (v := 7) hC 4 fl_X11_192 rfl rfl (by decide) rfl e19 dX11_who_68 ?_
      refine pm_iload_n hC 1 dX11_who_71 rfl ?_
      obtain ⟨y20, e21⟩ : ∃ y, V0 7 (a1 : Int).toNat = y := ⟨_, rfl⟩
      have b22 := hV0.get 7 (a1 : Int).toNat (lo := 0) (hi := 16) (by decide) (show _ < 10 by omega) rfl
      rw [e21] at b22
      refine pm_iaload (len := 10) (v := y20) hC 7 rfl rfl (by decide) ⟨by omega, by omega⟩ (by decide) e21 dX11_who_72 ?_
      exact pm_iret hC hR pm_nar0 ⟨y20, rfl, ⟨by omega, by omega⟩, rfl⟩ dX11_who_73
    · skip
      refine pm_tableIn (tgt := 74) (off := 62) hC ⟨by omega, by omega⟩ dX11_who_12 (by omega) (by omega) (by rw [c7]; rfl) (by decide) ?_
      refine pm_aload_n hC 0 (by decide) dX11_who_74 rfl ?_
      have e23 : V0 0 3 = 4 := hV0.one 0 3 (by decide) (by decide) rfl
      refine pm_getf (v := 4) hC 0 fl_X11_24 rfl rfl (by decide) rfl e23 dX11_who_75 ?_
      have e24 : V0 4 5 = 8 := hV0.one 4 5 (by decide) (by decide) rfl
      refine pm_getf (v := 8) hC 4 fl_X11_194 rfl rfl (by decide) rfl e24 dX11_who_78 ?_
      refine pm_iload_n hC 1 dX11_who_81 rfl ?_
      obtain ⟨y25, e26⟩ : ∃ y, V0 8 (a1 : Int).toNat = y := ⟨_, rfl⟩
      have b27 := hV0.get 8 (a1 : Int).toNat (lo := 0) (hi := 3) (by decide) (show _ < 10 by omega) rfl
      rw [e26] at b27
      refine pm_iaload (len := 10) (v := y25) hC 8 rfl rfl (by decide) ⟨by omega, by omega⟩ (by decide) e26 dX11_who_82 ?_
      exact pm_iret hC hR pm_nar0 ⟨y25, rfl, ⟨by omega, by omega⟩, rfl⟩ dX11_who_83
  · skip
    refine pm_ldc (v := (-2147483648)) hC 3153 dX11_who_8 (by decide +kernel) ?_
    exact pm_iret hC hR pm_nar0 ⟨(-2147483648), rfl, ⟨by omega, by omega⟩, rfl⟩ dX11_who_10
set_option maxHeartbeats 4000000 in
set_option maxRecDepth 100000 in
theorem c_X11_becomes_0 (a1 a2 a3 a4 : Int) (h0 : (-2147483648) ≤ a1 ∧ a1 ≤ 2147483647) (h1 : (-2147483648) ≤ a2 ∧ a2 ≤ 2147483647) (h2 : (-2147483648) ≤ a3 ∧ a3 ≤ 2147483647) (h3 : (-2147483648) ≤ a4 ∧ a4 ≤ 2147483647) : pm_K 2 yX11_becomes cX11_becomes 5 (some .boolean) (fun av V => av = [(3, 0), (0, a1), (0, a2), (0, a3), (0, a4)] ∧ pm_ok 0 90 V) (fun _ V r V' => ∃ y, r = some (0, y) ∧ (0 ≤ y ∧ y ≤ 1) ∧ pm_ok 0 90 V' ∧ pm_fr [5, 6, 7] V V') := by
  refine pm_MT.of (by decide) ⟨Nat.le_refl _, by decide⟩ (fun av V h => by rw [h.1]; exact (by decide : pm_words [(3, 0), (0, 0), (0, 0), (0, 0), (0, 0)] ≤ 5)) ?_
  rintro X av V0 hC - hR ⟨rfl, hV0⟩
  change pm_J X 0 [(0, (3, 0)), (1, (0, a1)), (2, (0, a2)), (3, (0, a3)), (4, (0, a4))] [] 118 V0
  refine pm_aload_n hC 0 (by decide) dX11_becomes_0 rfl ?_
  refine pm_iload_n hC 1 dX11_becomes_1 rfl ?_
  refine pm_callV (ci := 11) (as := [(0, a1)]) (st := []) hC 0 (c_X11_isPerson_0 a1 ⟨by omega, by omega⟩) lm_X11_183 li_X11_isPerson (by decide) (by decide) rfl rfl rfl (by decide) rfl rfl (Nat.le_of_ble_eq_true rfl) ⟨Nat.le_refl _, Or.inl rfl⟩ dX11_becomes_2 ⟨rfl, hV0⟩ (fun r1 V2 hp3 => ?_)
  obtain ⟨y4, rfl, b5, rfl⟩ := hp3
  change pm_J X 5 [(0, (3, 0)), (1, (0, a1)), (2, (0, a2)), (3, (0, a3)), (4, (0, a4))] [(0, y4)] 118 V0
  refine pm_if_eq (tgt := 24) hC ⟨by omega, by omega⟩ dX11_becomes_5 (by decide) (fun c6 => ?_) (fun c6 => ?_)
  · skip
    refine pm_iconst (v := 0) hC dX11_becomes_24 ?_
    exact pm_iret hC hR (pm_narZ (by omega)) ⟨0, rfl, ⟨by omega, by omega⟩, hV0, (pm_fr.rf (ws := [5, 6, 7]) (V := V0))⟩ dX11_becomes_25
  · skip
    refine pm_iload_n hC 2 dX11_becomes_8 rfl ?_
    refine pm_iload_n hC 3 dX11_becomes_9 rfl ?_
    refine pm_callS (as := [(0, a2), (0, a3)]) (st := []) hC (c_X11_areChanges a2 a3 ⟨by omega, by omega⟩ ⟨by omega, by omega⟩) lm_X11_172 ls_X11_areChanges (by decide) (by decide) rfl rfl (Nat.le_of_ble_eq_true rfl) ⟨Nat.le_refl _, Or.inl rfl⟩ dX11_becomes_10 ⟨rfl, hV0⟩ (fun r7 V8 hp9 => ?_)
    obtain ⟨y10, rfl, b11, rfl⟩ := hp9
    change pm_J X 13 [(0, (3, 0)), (1, (0, a1)), (2, (0, a2)), (3, (0, a3)), (4, (0, a4))] [(0, y10)] 118 V0
    refine pm_if_eq (tgt := 24) hC ⟨by omega, by omega⟩ dX11_becomes_13 (by decide) (fun c12 => ?_) (fun c12 => ?_)
    · skip
      refine pm_iconst (v := 0) hC dX11_becomes_24 ?_
      exact pm_iret hC hR (pm_narZ (by omega)) ⟨0, rfl, ⟨by omega, by omega⟩, hV0, (pm_fr.rf (ws := [5, 6, 7]) (V := V0))⟩ dX11_becomes_25
    · skip
      refine pm_iload hC 4 dX11_becomes_16 rfl ?_
      refine pm_callS (as := [(0, a4)]) (st := []) hC (c_X11_isBelief a4 ⟨by omega, by omega⟩) lm_X11_176 ls_X11_isBelief (by decide) (by decide) rfl rfl (Nat.le_of_ble_eq_true rfl) ⟨Nat.le_refl _, Or.inl rfl⟩ dX11_becomes_18 ⟨rfl, hV0⟩ (fun r13 V14 hp15 => ?_)
      obtain ⟨y16, rfl, b17, rfl⟩ := hp15
      change pm_J X 21 [(0, (3, 0)), (1, (0, a1)), (2, (0, a2)), (3, (0, a3)), (4, (0, a4))] [(0, y16)] 118 V0
      refine pm_if_ne (tgt := 26) hC ⟨by omega, by omega⟩ dX11_becomes_21 (by decide) (fun c18 => ?_) (fun c18 => ?_)
      · skip
        refine pm_aload_n hC 0 (by decide) dX11_becomes_26 rfl ?_
        have e19 : V0 0 3 = 4 := hV0.one 0 3 (by decide) (by decide) rfl
        refine pm_getf (v := 4) hC 0 fl_X11_24 rfl rfl (by decide) rfl e19 dX11_becomes_27 ?_
        refine pm_iload_n hC 1 dX11_becomes_30 rfl ?_
        refine pm_iload_n hC 2 dX11_becomes_31 rfl ?_
        refine pm_iload_n hC 3 dX11_becomes_32 rfl ?_
        refine pm_iload hC 4 dX11_becomes_33 rfl ?_
        refine pm_callV (ci := 7) (as := [(0, a1), (0, a2), (0, a3), (0, a4)]) (st := []) hC 4 (c_X7_changePerson_4 a1 a2 a3 a4 ⟨by omega, by omega⟩ ⟨by omega, by omega⟩ ⟨by omega, by omega⟩ ⟨by omega, by omega⟩) lm_X11_197 li_X7_changePerson (by decide) (by decide) rfl rfl rfl (by decide) rfl rfl (Nat.le_of_ble_eq_true rfl) ⟨Nat.le_refl _, Or.inl rfl⟩ dX11_becomes_35 ⟨rfl, hV0⟩ (fun r20 V21 hp22 => ?_)
        obtain ⟨rfl, hV23, hF24⟩ := hp22
        change pm_J X 38 [(0, (3, 0)), (1, (0, a1)), (2, (0, a2)), (3, (0, a3)), (4, (0, a4))] [] 118 V21
        have hF25 := pm_fr.tr (pm_fr.rf (ws := [5, 6, 7]) (V := V0)) hF24 (by decide)
        have e26 : V21 0 3 = 4 := by rw [hF24 0 (by decide)]; exact e19
        refine pm_iconst (v := 1) hC dX11_becomes_38 ?_
        exact pm_iret hC hR (pm_narZ (by omega)) ⟨1, rfl, ⟨by omega, by omega⟩, hV23, hF25⟩ dX11_becomes_39
      · skip
        refine pm_iconst (v := 0) hC dX11_becomes_24 ?_
        exact pm_iret hC hR (pm_narZ (by omega)) ⟨0, rfl, ⟨by omega, by omega⟩, hV0, (pm_fr.rf (ws := [5, 6, 7]) (V := V0))⟩ dX11_becomes_25
set_option maxHeartbeats 4000000 in
set_option maxRecDepth 100000 in
theorem c_X11_isLaw (a1 : Int) (h0 : (-2147483648) ≤ a1 ∧ a1 ≤ 2147483647) : pm_K 1 yX11_isLaw cX11_isLaw 1 (some .boolean) (fun av V => av = [(0, a1)] ∧ pm_ok 0 90 V) (fun _ V r V' => ∃ y, r = some (0, y) ∧ (0 ≤ y ∧ y ≤ 1 ∧ (y = 1 → (0 ≤ a1 ∧ a1 ≤ 6))) ∧ V = V') := by
  refine pm_MT.of (by decide) ⟨Nat.le_refl _, by decide⟩ (fun av V h => by rw [h.1]; exact (by decide : pm_words [(0, 0)] ≤ 1)) ?_
  rintro X av V0 hC - hR ⟨rfl, hV0⟩
  change pm_J X 0 [(0, (0, a1))] [] 118 V0
  refine pm_iload_n hC 0 dX11_isLaw_0 rfl ?_
  refine pm_if_lt (tgt := 14) hC ⟨by omega, by omega⟩ dX11_isLaw_1 (by decide) (fun c1 => ?_) (fun c1 => ?_)
  · skip
    refine pm_iconst (v := 0) hC dX11_isLaw_14 ?_
    exact pm_iret hC hR (pm_narZ (by omega)) ⟨0, rfl, ⟨by omega, by omega, by omega⟩, rfl⟩ dX11_isLaw_15
  · skip
    refine pm_iload_n hC 0 dX11_isLaw_4 rfl ?_
    refine pm_bipush (v := 7) hC dX11_isLaw_5 (by decide) ?_
    refine pm_icmp_ge (tgt := 14) hC ⟨by omega, by omega⟩ ⟨by decide, by decide⟩ dX11_isLaw_7 (by decide) (fun c2 => ?_) (fun c2 => ?_)
    · skip
      refine pm_iconst (v := 0) hC dX11_isLaw_14 ?_
      exact pm_iret hC hR (pm_narZ (by omega)) ⟨0, rfl, ⟨by omega, by omega, by omega⟩, rfl⟩ dX11_isLaw_15
    · skip
      refine pm_iconst (v := 1) hC dX11_isLaw_10 ?_
      refine pm_goto (tgt := 15) hC dX11_isLaw_11 (by decide) ?_
      exact pm_iret hC hR (pm_narZ (by omega)) ⟨1, rfl, ⟨by omega, by omega, by omega⟩, rfl⟩ dX11_isLaw_15
set_option maxHeartbeats 4000000 in
set_option maxRecDepth 100000 in
theorem c_X11_isSetting (a1 : Int) (h0 : (-2147483648) ≤ a1 ∧ a1 ≤ 2147483647) : pm_K 1 yX11_isSetting cX11_isSetting 1 (some .boolean) (fun av V => av = [(0, a1)] ∧ pm_ok 0 90 V) (fun _ V r V' => ∃ y, r = some (0, y) ∧ (0 ≤ y ∧ y ≤ 1 ∧ (y = 1 → (0 ≤ a1 ∧ a1 ≤ 99))) ∧ V = V') := by
  refine pm_MT.of (by decide) ⟨Nat.le_refl _, by decide⟩ (fun av V h => by rw [h.1]; exact (by decide : pm_words [(0, 0)] ≤ 1)) ?_
  rintro X av V0 hC - hR ⟨rfl, hV0⟩
  change pm_J X 0 [(0, (0, a1))] [] 118 V0
  refine pm_iload_n hC 0 dX11_isSetting_0 rfl ?_
  refine pm_if_lt (tgt := 14) hC ⟨by omega, by omega⟩ dX11_isSetting_1 (by decide) (fun c1 => ?_) (fun c1 => ?_)
  · skip
    refine pm_iconst (v := 0) hC dX11_isSetting_14 ?_
    exact pm_iret hC hR (pm_narZ (by omega)) ⟨0, rfl, ⟨by omega, by omega, by omega⟩, rfl⟩ dX11_isSetting_15
  · skip
    refine pm_iload_n hC 0 dX11_isSetting_4 rfl ?_
    refine pm_bipush (v := 99) hC dX11_isSetting_5 (by decide) ?_
    refine pm_icmp_gt (tgt := 14) hC ⟨by omega, by omega⟩ ⟨by decide, by decide⟩ dX11_isSetting_7 (by decide) (fun c2 => ?_) (fun c2 => ?_)
    · skip
      refine pm_iconst (v := 0) hC dX11_isSetting_14 ?_
      exact pm_iret hC hR (pm_narZ (by omega)) ⟨0, rfl, ⟨by omega, by omega, by omega⟩, rfl⟩ dX11_isSetting_15
    · skip
      refine pm_iconst (v := 1) hC dX11_isSetting_10 ?_
      refine pm_goto (tgt := 15) hC dX11_isSetting_11 (by decide) ?_
      exact pm_iret hC hR (pm_narZ (by omega)) ⟨1, rfl, ⟨by omega, by omega, by omega⟩, rfl⟩ dX11_isSetting_15
set_option maxHeartbeats 4000000 in
set_option maxRecDepth 100000 in
theorem c_X11_isLate (a1 : Int) (h0 : (-2147483648) ≤ a1 ∧ a1 ≤ 2147483647) : pm_K 1 yX11_isLate cX11_isLate 1 (some .boolean) (fun av V => av = [(0, a1)] ∧ pm_ok 0 90 V) (fun _ V r V' => ∃ y, r = some (0, y) ∧ (0 ≤ y ∧ y ≤ 1 ∧ (y = 1 → ((-99) ≤ a1 ∧ a1 ≤ 99))) ∧ V = V') := by
  refine pm_MT.of (by decide) ⟨Nat.le_refl _, by decide⟩ (fun av V h => by rw [h.1]; exact (by decide : pm_words [(0, 0)] ≤ 1)) ?_
  rintro X av V0 hC - hR ⟨rfl, hV0⟩
  change pm_J X 0 [(0, (0, a1))] [] 118 V0
  refine pm_iload_n hC 0 dX11_isLate_0 rfl ?_
  refine pm_bipush (v := (-99)) hC dX11_isLate_1 (by decide) ?_
  refine pm_icmp_lt (tgt := 16) hC ⟨by omega, by omega⟩ ⟨by decide, by decide⟩ dX11_isLate_3 (by decide) (fun c1 => ?_) (fun c1 => ?_)
  · skip
    refine pm_iconst (v := 0) hC dX11_isLate_16 ?_
    exact pm_iret hC hR (pm_narZ (by omega)) ⟨0, rfl, ⟨by omega, by omega, by omega⟩, rfl⟩ dX11_isLate_17
  · skip
    refine pm_iload_n hC 0 dX11_isLate_6 rfl ?_
    refine pm_bipush (v := 99) hC dX11_isLate_7 (by decide) ?_
    refine pm_icmp_gt (tgt := 16) hC ⟨by omega, by omega⟩ ⟨by decide, by decide⟩ dX11_isLate_9 (by decide) (fun c2 => ?_) (fun c2 => ?_)
    · skip
      refine pm_iconst (v := 0) hC dX11_isLate_16 ?_
      exact pm_iret hC hR (pm_narZ (by omega)) ⟨0, rfl, ⟨by omega, by omega, by omega⟩, rfl⟩ dX11_isLate_17
    · skip
      refine pm_iconst (v := 1) hC dX11_isLate_12 ?_
      refine pm_goto (tgt := 17) hC dX11_isLate_13 (by decide) ?_
      exact pm_iret hC hR (pm_narZ (by omega)) ⟨1, rfl, ⟨by omega, by omega, by omega⟩, rfl⟩ dX11_isLate_17
set_option maxHeartbeats 4000000 in
set_option maxRecDepth 100000 in
theorem c_X11_isTrial_0 (a1 a2 a3 : Int) (h0 : (-2147483648) ≤ a1 ∧ a1 ≤ 2147483647) (h1 : (-2147483648) ≤ a2 ∧ a2 ≤ 2147483647) (h2 : (-2147483648) ≤ a3 ∧ a3 ≤ 2147483647) : pm_K 2 yX11_isTrial cX11_isTrial 5 (some .boolean) (fun av V => av = [(3, 0), (0, a1), (0, a2), (0, a3)] ∧ pm_ok 0 90 V) (fun _ V r V' => ∃ y, r = some (0, y) ∧ (0 ≤ y ∧ y ≤ 1 ∧ (y = 1 → (0 ≤ a1 ∧ a1 ≤ 999 ∧ 0 ≤ a2 ∧ a2 ≤ 99 ∧ (-99) ≤ a3 ∧ a3 ≤ 99 ∧ a1 % 10 ≤ 8 ∧ a1 / 10 % 10 ≤ 8))) ∧ V = V') := by
  refine pm_MT.of (by decide) ⟨Nat.le_refl _, by decide⟩ (fun av V h => by rw [h.1]; exact (by decide : pm_words [(3, 0), (0, 0), (0, 0), (0, 0)] ≤ 5)) ?_
  rintro X av V0 hC - hR ⟨rfl, hV0⟩
  change pm_J X 0 [(0, (3, 0)), (1, (0, a1)), (2, (0, a2)), (3, (0, a3))] [] 118 V0
  refine pm_iload_n hC 1 dX11_isTrial_0 rfl ?_
  refine pm_if_lt (tgt := 44) hC ⟨by omega, by omega⟩ dX11_isTrial_1 (by decide) (fun c1 => ?_) (fun c1 => ?_)
  · skip
    refine pm_iconst (v := 0) hC dX11_isTrial_44 ?_
    refine pm_istore (lv' := [(4, (0, 0)), (0, (3, 0)), (1, (0, a1)), (2, (0, a2)), (3, (0, a3))]) hC dX11_isTrial_45 (by decide) rfl ?_
    refine pm_iload hC 0 dX11_isTrial_47 rfl ?_
    refine pm_if_eq (tgt := 70) hC ⟨by decide, by decide⟩ dX11_isTrial_49 (by decide) (fun c2 => ?_) (fun c2 => ?_)
    · skip
      refine pm_iconst (v := 0) hC dX11_isTrial_70 ?_
      exact pm_iret hC hR (pm_narZ (by omega)) ⟨0, rfl, ⟨by omega, by omega, by omega⟩, rfl⟩ dX11_isTrial_71
    · skip
      exfalso; omega
  · skip
    refine pm_aload_n hC 0 (by decide) dX11_isTrial_4 rfl ?_
    refine pm_iload_n hC 1 dX11_isTrial_5 rfl ?_
    refine pm_bipush (v := 100) hC dX11_isTrial_6 (by decide) ?_
    refine pm_idiv hC ⟨by omega, by omega, by omega⟩ ⟨by decide, by decide, by decide⟩ dX11_isTrial_8 ?_
    refine pm_callV (ci := 11) (as := [(0, (a1 / 100))]) (st := []) hC 0 (c_X11_isPerson_0 (a1 / 100) ⟨by omega, by omega⟩) lm_X11_183 li_X11_isPerson (by decide) (by decide) rfl rfl rfl (by decide) rfl rfl (Nat.le_of_ble_eq_true rfl) ⟨Nat.le_refl _, Or.inl rfl⟩ dX11_isTrial_9 ⟨rfl, hV0⟩ (fun r3 V4 hp5 => ?_)
    obtain ⟨y6, rfl, b7, rfl⟩ := hp5
    change pm_J X 12 [(0, (3, 0)), (1, (0, a1)), (2, (0, a2)), (3, (0, a3))] [(0, y6)] 118 V0
    refine pm_if_eq (tgt := 44) hC ⟨by omega, by omega⟩ dX11_isTrial_12 (by decide) (fun c8 => ?_) (fun c8 => ?_)
    · skip
      refine pm_iconst (v := 0) hC dX11_isTrial_44 ?_
      refine pm_istore (lv' := [(4, (0, 0)), (0, (3, 0)), (1, (0, a1)), (2, (0, a2)), (3, (0, a3))]) hC dX11_isTrial_45 (by decide) rfl ?_
      refine pm_iload hC 0 dX11_isTrial_47 rfl ?_
      refine pm_if_eq (tgt := 70) hC ⟨by decide, by decide⟩ dX11_isTrial_49 (by decide) (fun c9 => ?_) (fun c9 => ?_)
      · skip
        refine pm_iconst (v := 0) hC dX11_isTrial_70 ?_
        exact pm_iret hC hR (pm_narZ (by omega)) ⟨0, rfl, ⟨by omega, by omega, by omega⟩, rfl⟩ dX11_isTrial_71
      · skip
        exfalso; omega
    · skip
      refine pm_aload_n hC 0 (by decide) dX11_isTrial_15 rfl ?_
      refine pm_iload_n hC 1 dX11_isTrial_16 rfl ?_
      refine pm_bipush (v := 10) hC dX11_isTrial_17 (by decide) ?_
      refine pm_idiv hC ⟨by omega, by omega, by omega⟩ ⟨by decide, by decide, by decide⟩ dX11_isTrial_19 ?_
      refine pm_bipush (v := 10) hC dX11_isTrial_20 (by decide) ?_
      refine pm_irem hC ⟨by omega, by omega, by omega⟩ ⟨by decide, by decide, by decide⟩ dX11_isTrial_22 ?_
      refine pm_callV (ci := 11) (as := [(0, ((a1 / 10) % 10))]) (st := []) hC 0 (c_X11_isSound_0 ((a1 / 10) % 10) ⟨by omega, by omega⟩) lm_X11_142 li_X11_isSound (by decide) (by decide) rfl rfl rfl (by decide) rfl rfl (Nat.le_of_ble_eq_true rfl) ⟨Nat.le_refl _, Or.inl rfl⟩ dX11_isTrial_23 ⟨rfl, hV0⟩ (fun r10 V11 hp12 => ?_)
      obtain ⟨y13, rfl, b14, rfl⟩ := hp12
      change pm_J X 26 [(0, (3, 0)), (1, (0, a1)), (2, (0, a2)), (3, (0, a3))] [(0, y13)] 118 V0
      refine pm_if_eq (tgt := 44) hC ⟨by omega, by omega⟩ dX11_isTrial_26 (by decide) (fun c15 => ?_) (fun c15 => ?_)
      · skip
        refine pm_iconst (v := 0) hC dX11_isTrial_44 ?_
        refine pm_istore (lv' := [(4, (0, 0)), (0, (3, 0)), (1, (0, a1)), (2, (0, a2)), (3, (0, a3))]) hC dX11_isTrial_45 (by decide) rfl ?_
        refine pm_iload hC 0 dX11_isTrial_47 rfl ?_
        refine pm_if_eq (tgt := 70) hC ⟨by decide, by decide⟩ dX11_isTrial_49 (by decide) (fun c16 => ?_) (fun c16 => ?_)
        · skip
          refine pm_iconst (v := 0) hC dX11_isTrial_70 ?_
          exact pm_iret hC hR (pm_narZ (by omega)) ⟨0, rfl, ⟨by omega, by omega, by omega⟩, rfl⟩ dX11_isTrial_71
        · skip
          exfalso; omega
      · skip
        refine pm_aload_n hC 0 (by decide) dX11_isTrial_29 rfl ?_
        refine pm_iload_n hC 1 dX11_isTrial_30 rfl ?_
        refine pm_bipush (v := 10) hC dX11_isTrial_31 (by decide) ?_
        refine pm_irem hC ⟨by omega, by omega, by omega⟩ ⟨by decide, by decide, by decide⟩ dX11_isTrial_33 ?_
        refine pm_callV (ci := 11) (as := [(0, (a1 % 10))]) (st := []) hC 0 (c_X11_isSound_0 (a1 % 10) ⟨by omega, by omega⟩) lm_X11_142 li_X11_isSound (by decide) (by decide) rfl rfl rfl (by decide) rfl rfl (Nat.le_of_ble_eq_true rfl) ⟨Nat.le_refl _, Or.inl rfl⟩ dX11_isTrial_34 ⟨rfl, hV0⟩ (fun r17 V18 hp19 => ?_)
        obtain ⟨y20, rfl, b21, rfl⟩ := hp19
        change pm_J X 37 [(0, (3, 0)), (1, (0, a1)), (2, (0, a2)), (3, (0, a3))] [(0, y20)] 118 V0
        refine pm_if_eq (tgt := 44) hC ⟨by omega, by omega⟩ dX11_isTrial_37 (by decide) (fun c22 => ?_) (fun c22 => ?_)
        · skip
          refine pm_iconst (v := 0) hC dX11_isTrial_44 ?_
          refine pm_istore (lv' := [(4, (0, 0)), (0, (3, 0)), (1, (0, a1)), (2, (0, a2)), (3, (0, a3))]) hC dX11_isTrial_45 (by decide) rfl ?_
          refine pm_iload hC 0 dX11_isTrial_47 rfl ?_
          refine pm_if_eq (tgt := 70) hC ⟨by decide, by decide⟩ dX11_isTrial_49 (by decide) (fun c23 => ?_) (fun c23 => ?_)
          · skip
            refine pm_iconst (v := 0) hC dX11_isTrial_70 ?_
            exact pm_iret hC hR (pm_narZ (by omega)) ⟨0, rfl, ⟨by omega, by omega, by omega⟩, rfl⟩ dX11_isTrial_71
          · skip
            exfalso; omega
        · skip
          refine pm_iconst (v := 1) hC dX11_isTrial_40 ?_
          refine pm_goto (tgt := 45) hC dX11_isTrial_41 (by decide) ?_
          refine pm_istore (lv' := [(4, (0, 1)), (0, (3, 0)), (1, (0, a1)), (2, (0, a2)), (3, (0, a3))]) hC dX11_isTrial_45 (by decide) rfl ?_
          refine pm_iload hC 0 dX11_isTrial_47 rfl ?_
          refine pm_if_eq (tgt := 70) hC ⟨by decide, by decide⟩ dX11_isTrial_49 (by decide) (fun c24 => ?_) (fun c24 => ?_)
          · skip
            exfalso; omega
          · skip
            refine pm_iload_n hC 3 dX11_isTrial_52 rfl ?_
            refine pm_callS (as := [(0, a2)]) (st := []) hC (c_X11_isSetting a2 ⟨by omega, by omega⟩) lm_X11_297 ls_X11_isSetting (by decide) (by decide) rfl rfl (Nat.le_of_ble_eq_true rfl) ⟨Nat.le_refl _, Or.inl rfl⟩ dX11_isTrial_53 ⟨rfl, hV0⟩ (fun r25 V26 hp27 => ?_)
            obtain ⟨y28, rfl, b29, rfl⟩ := hp27
            change pm_J X 56 [(4, (0, 1)), (0, (3, 0)), (1, (0, a1)), (2, (0, a2)), (3, (0, a3))] [(0, y28)] 118 V0
            refine pm_if_eq (tgt := 70) hC ⟨by omega, by omega⟩ dX11_isTrial_56 (by decide) (fun c30 => ?_) (fun c30 => ?_)
            · skip
              refine pm_iconst (v := 0) hC dX11_isTrial_70 ?_
              exact pm_iret hC hR (pm_narZ (by omega)) ⟨0, rfl, ⟨by omega, by omega, by omega⟩, rfl⟩ dX11_isTrial_71
            · skip
              refine pm_iload_n hC 4 dX11_isTrial_59 rfl ?_
              refine pm_callS (as := [(0, a3)]) (st := []) hC (c_X11_isLate a3 ⟨by omega, by omega⟩) lm_X11_300 ls_X11_isLate (by decide) (by decide) rfl rfl (Nat.le_of_ble_eq_true rfl) ⟨Nat.le_refl _, Or.inl rfl⟩ dX11_isTrial_60 ⟨rfl, hV0⟩ (fun r31 V32 hp33 => ?_)
              obtain ⟨y34, rfl, b35, rfl⟩ := hp33
              change pm_J X 63 [(4, (0, 1)), (0, (3, 0)), (1, (0, a1)), (2, (0, a2)), (3, (0, a3))] [(0, y34)] 118 V0
              refine pm_if_eq (tgt := 70) hC ⟨by omega, by omega⟩ dX11_isTrial_63 (by decide) (fun c36 => ?_) (fun c36 => ?_)
              · skip
                refine pm_iconst (v := 0) hC dX11_isTrial_70 ?_
                exact pm_iret hC hR (pm_narZ (by omega)) ⟨0, rfl, ⟨by omega, by omega, by omega⟩, rfl⟩ dX11_isTrial_71
              · skip
                refine pm_iconst (v := 1) hC dX11_isTrial_66 ?_
                refine pm_goto (tgt := 71) hC dX11_isTrial_67 (by decide) ?_
                exact pm_iret hC hR (pm_narZ (by omega)) ⟨1, rfl, ⟨by omega, by omega, by omega⟩, rfl⟩ dX11_isTrial_71
set_option maxHeartbeats 4000000 in
set_option maxRecDepth 100000 in
theorem c_X10_place_73_45 (a1 a2 : Int) (h0 : 0 ≤ a1 ∧ a1 ≤ 99) (h1 : 0 ≤ a2 ∧ a2 ≤ 99) (h2 : a1 % 10 ≤ 8 ∧ a1 / 10 ≤ 8) : pm_K 1 yX10_place cX10_place 4 none (fun av V => av = [(3, 73), (3, 45), (0, a1), (0, a2)] ∧ pm_ok 0 90 V) (fun _ V r V' => r = none ∧ pm_ok 0 90 V' ∧ pm_fr [73] V V') := by
  refine pm_MT.of (by decide) ⟨Nat.le_refl _, by decide⟩ (fun av V h => by rw [h.1]; exact (by decide : pm_words [(3, 0), (3, 0), (0, 0), (0, 0)] ≤ 4)) ?_
  rintro X av V0 hC - hR ⟨rfl, hV0⟩
  change pm_J X 0 [(0, (3, 73)), (1, (3, 45)), (2, (0, a1)), (3, (0, a2))] [] 118 V0
  refine pm_aload_n hC 0 (by decide) dX10_place_0 rfl ?_
  refine pm_aload_n hC 1 (by decide) dX10_place_1 rfl ?_
  refine pm_putf hC 73 fl_X10_59 rfl rfl rfl (by decide) rfl trivial dX10_place_2 ?_
  refine pm_aload_n hC 0 (by decide) dX10_place_5 rfl ?_
  refine pm_iload_n hC 2 dX10_place_6 rfl ?_
  refine pm_bipush (v := 10) hC dX10_place_7 (by decide) ?_
  refine pm_idiv hC ⟨by omega, by omega, by omega⟩ ⟨by decide, by decide, by decide⟩ dX10_place_9 ?_
  refine pm_putf hC 73 fl_X10_9 rfl rfl rfl (by decide) rfl trivial dX10_place_10 ?_
  refine pm_aload_n hC 0 (by decide) dX10_place_13 rfl ?_
  refine pm_iload_n hC 2 dX10_place_14 rfl ?_
  refine pm_bipush (v := 10) hC dX10_place_15 (by decide) ?_
  refine pm_irem hC ⟨by omega, by omega, by omega⟩ ⟨by decide, by decide, by decide⟩ dX10_place_17 ?_
  refine pm_putf hC 73 fl_X10_15 rfl rfl rfl (by decide) rfl trivial dX10_place_18 ?_
  refine pm_aload_n hC 0 (by decide) dX10_place_21 rfl ?_
  refine pm_iload_n hC 3 dX10_place_22 rfl ?_
  refine pm_bipush (v := 10) hC dX10_place_23 (by decide) ?_
  refine pm_idiv hC ⟨by omega, by omega, by omega⟩ ⟨by decide, by decide, by decide⟩ dX10_place_25 ?_
  refine pm_putf hC 73 fl_X10_18 rfl rfl rfl (by decide) rfl trivial dX10_place_26 ?_
  refine pm_aload_n hC 0 (by decide) dX10_place_29 rfl ?_
  refine pm_iload_n hC 3 dX10_place_30 rfl ?_
  refine pm_bipush (v := 10) hC dX10_place_31 (by decide) ?_
  refine pm_irem hC ⟨by omega, by omega, by omega⟩ ⟨by decide, by decide, by decide⟩ dX10_place_33 ?_
  refine pm_putf hC 73 fl_X10_21 rfl rfl rfl (by decide) rfl trivial dX10_place_34 ?_
  exact pm_vret hC hR ⟨rfl, (((((hV0.put2 73 0 (x := 45) (lo := 45) (hi := 51) rfl ⟨by omega, by decide⟩).put 73 1 (x := (a1 / 10)) (lo := 0) (hi := 8) rfl ⟨by omega, by omega⟩).put 73 2 (x := (a1 % 10)) (lo := 0) (hi := 8) rfl ⟨by omega, by omega⟩).put 73 3 (x := (a2 / 10)) (lo := 0) (hi := 9) rfl ⟨by omega, by omega⟩).put 73 4 (x := (a2 % 10)) (lo := 0) (hi := 9) rfl ⟨by omega, by omega⟩), ((((((pm_fr.rf (ws := [73]) (V := V0)).up 73 0 45 rfl).up 73 1 (a1 / 10) rfl).up 73 2 (a1 % 10) rfl).up 73 3 (a2 / 10) rfl).up 73 4 (a2 % 10) rfl)⟩ dX10_place_37
set_option maxHeartbeats 4000000 in
set_option maxRecDepth 100000 in
theorem c_X10_farFrom_73 (a1 a2 a3 : Int) (h0 : 0 ≤ a1 ∧ a1 ≤ 8) (h1 : 0 ≤ a2 ∧ a2 ≤ 100000) (h2 : 0 ≤ a3 ∧ a3 ≤ 99) : pm_K 1 yX10_farFrom cX10_farFrom 4 (some .int) (fun av V => av = [(3, 73), (0, a1), (0, a2), (0, a3)] ∧ pm_ok 0 90 V) (fun _ V r V' => ∃ y, r = some (0, y) ∧ (0 ≤ y ∧ y ≤ 100099) ∧ V = V') := by
  refine pm_MT.of (by decide) ⟨Nat.le_refl _, by decide⟩ (fun av V h => by rw [h.1]; exact (by decide : pm_words [(3, 0), (0, 0), (0, 0), (0, 0)] ≤ 4)) ?_
  rintro X av V0 hC - hR ⟨rfl, hV0⟩
  change pm_J X 0 [(0, (3, 73)), (1, (0, a1)), (2, (0, a2)), (3, (0, a3))] [] 118 V0
  refine pm_aload_n hC 0 (by decide) dX10_farFrom_0 rfl ?_
  rcases hV0.get2 73 0 (lo := 45) (hi := 51) (by decide) (by decide) rfl with e1 | e1
  · skip
    refine pm_getf (v := 45) hC 73 fl_X10_59 rfl rfl (by decide) rfl e1 dX10_farFrom_1 ?_
    have e2 : V0 45 1 = 46 := hV0.one 45 1 (by decide) (by decide) rfl
    refine pm_getf (v := 46) hC 45 fl_X10_82 rfl rfl (by decide) rfl e2 dX10_farFrom_4 ?_
    refine pm_iload_n hC 1 dX10_farFrom_7 rfl ?_
    obtain ⟨y3, e4⟩ : ∃ y, V0 46 (a1 : Int).toNat = y := ⟨_, rfl⟩
    have b5 := hV0.get 46 (a1 : Int).toNat (lo := 0) (hi := 99) (by decide) (show _ < 9 by omega) rfl
    rw [e4] at b5
    refine pm_iaload (len := 9) (v := y3) hC 46 rfl rfl (by decide) ⟨by omega, by omega⟩ (by decide) e4 dX10_farFrom_8 ?_
    refine pm_iload_n hC 2 dX10_farFrom_9 rfl ?_
    refine pm_isub hC dX10_farFrom_10 ?_
    refine pm_mabs hC 4014 4015 1018 4016 ⟨by omega, by omega⟩ (by decide) wL_X10_86 wS_mabs wI_math wC_mabs (Nat.le_of_ble_eq_true rfl) dX10_farFrom_11 (fun y6 b7 => ?_)
    have b7 := And.intro b7.1.1 (And.intro b7.1.2 b7.2)
    refine pm_aload_n hC 0 (by decide) dX10_farFrom_14 rfl ?_
    refine pm_getf (v := 45) hC 73 fl_X10_59 rfl rfl (by decide) rfl e1 dX10_farFrom_15 ?_
    have e8 : V0 45 2 = 47 := hV0.one 45 2 (by decide) (by decide) rfl
    refine pm_getf (v := 47) hC 45 fl_X10_93 rfl rfl (by decide) rfl e8 dX10_farFrom_18 ?_
    refine pm_iload_n hC 1 dX10_farFrom_21 rfl ?_
    obtain ⟨y9, e10⟩ : ∃ y, V0 47 (a1 : Int).toNat = y := ⟨_, rfl⟩
    have b11 := hV0.get 47 (a1 : Int).toNat (lo := 0) (hi := 99) (by decide) (show _ < 9 by omega) rfl
    rw [e10] at b11
    refine pm_iaload (len := 9) (v := y9) hC 47 rfl rfl (by decide) ⟨by omega, by omega⟩ (by decide) e10 dX10_farFrom_22 ?_
    refine pm_iload_n hC 3 dX10_farFrom_23 rfl ?_
    refine pm_isub hC dX10_farFrom_24 ?_
    refine pm_mabs hC 4014 4015 1018 4016 ⟨by omega, by omega⟩ (by decide) wL_X10_86 wS_mabs wI_math wC_mabs (Nat.le_of_ble_eq_true rfl) dX10_farFrom_25 (fun y12 b13 => ?_)
    have b13 := And.intro b13.1.1 (And.intro b13.1.2 b13.2)
    refine pm_iadd hC dX10_farFrom_28 ?_
    exact pm_iret hC hR pm_nar0 ⟨(y6 + y12), rfl, ⟨by omega, by omega⟩, rfl⟩ dX10_farFrom_29
  · skip
    refine pm_getf (v := 51) hC 73 fl_X10_59 rfl rfl (by decide) rfl e1 dX10_farFrom_1 ?_
    have e14 : V0 51 1 = 52 := hV0.one 51 1 (by decide) (by decide) rfl
    refine pm_getf (v := 52) hC 51 fl_X10_82 rfl rfl (by decide) rfl e14 dX10_farFrom_4 ?_
    refine pm_iload_n hC 1 dX10_farFrom_7 rfl ?_
    obtain ⟨y15, e16⟩ : ∃ y, V0 52 (a1 : Int).toNat = y := ⟨_, rfl⟩
    have b17 := hV0.get 52 (a1 : Int).toNat (lo := 0) (hi := 99) (by decide) (show _ < 9 by omega) rfl
    rw [e16] at b17
    refine pm_iaload (len := 9) (v := y15) hC 52 rfl rfl (by decide) ⟨by omega, by omega⟩ (by decide) e16 dX10_farFrom_8 ?_
    refine pm_iload_n hC 2 dX10_farFrom_9 rfl ?_
    refine pm_isub hC dX10_farFrom_10 ?_
    refine pm_mabs hC 4014 4015 1018 4016 ⟨by omega, by omega⟩ (by decide) wL_X10_86 wS_mabs wI_math wC_mabs (Nat.le_of_ble_eq_true rfl) dX10_farFrom_11 (fun y18 b19 => ?_)
    have b19 := And.intro b19.1.1 (And.intro b19.1.2 b19.2)
    refine pm_aload_n hC 0 (by decide) dX10_farFrom_14 rfl ?_
    refine pm_getf (v := 51) hC 73 fl_X10_59 rfl rfl (by decide) rfl e1 dX10_farFrom_15 ?_
    have e20 : V0 51 2 = 53 := hV0.one 51 2 (by decide) (by decide) rfl
    refine pm_getf (v := 53) hC 51 fl_X10_93 rfl rfl (by decide) rfl e20 dX10_farFrom_18 ?_
    refine pm_iload_n hC 1 dX10_farFrom_21 rfl ?_
    obtain ⟨y21, e22⟩ : ∃ y, V0 53 (a1 : Int).toNat = y := ⟨_, rfl⟩
    have b23 := hV0.get 53 (a1 : Int).toNat (lo := 0) (hi := 99) (by decide) (show _ < 9 by omega) rfl
    rw [e22] at b23
    refine pm_iaload (len := 9) (v := y21) hC 53 rfl rfl (by decide) ⟨by omega, by omega⟩ (by decide) e22 dX10_farFrom_22 ?_
    refine pm_iload_n hC 3 dX10_farFrom_23 rfl ?_
    refine pm_isub hC dX10_farFrom_24 ?_
    refine pm_mabs hC 4014 4015 1018 4016 ⟨by omega, by omega⟩ (by decide) wL_X10_86 wS_mabs wI_math wC_mabs (Nat.le_of_ble_eq_true rfl) dX10_farFrom_25 (fun y24 b25 => ?_)
    have b25 := And.intro b25.1.1 (And.intro b25.1.2 b25.2)
    refine pm_iadd hC dX10_farFrom_28 ?_
    exact pm_iret hC hR pm_nar0 ⟨(y18 + y24), rfl, ⟨by omega, by omega⟩, rfl⟩ dX10_farFrom_29
set_option maxHeartbeats 4000000 in
set_option maxRecDepth 100000 in
theorem c_X10_spread_73 (a1 a2 : Int) (h0 : (-30) ≤ a1 ∧ a1 ≤ 30) (h1 : (-30) ≤ a2 ∧ a2 ≤ 30) : pm_K 2 yX10_spread cX10_spread 9 none (fun av V => av = [(3, 73), (0, a1), (0, a2)] ∧ pm_ok 0 90 V) (fun _ V r V' => r = none ∧ pm_ok 0 90 V' ∧ pm_fr [73, 74, 75] V V') := by
  refine pm_MT.of (by decide) ⟨Nat.le_refl _, by decide⟩ (fun av V h => by rw [h.1]; exact (by decide : pm_words [(3, 0), (0, 0), (0, 0)] ≤ 9)) ?_
  rintro X av V0 hC - hR ⟨rfl, hV0⟩
  change pm_J X 0 [(0, (3, 73)), (1, (0, a1)), (2, (0, a2))] [] 118 V0
  refine pm_aload_n hC 0 (by decide) dX10_spread_0 rfl ?_
  refine pm_iconst (v := 1) hC dX10_spread_1 ?_
  refine pm_aload_n hC 0 (by decide) dX10_spread_2 rfl ?_
  rcases hV0.get2 73 0 (lo := 45) (hi := 51) (by decide) (by decide) rfl with e1 | e1
  · skip
    refine pm_getf (v := 45) hC 73 fl_X10_59 rfl rfl (by decide) rfl e1 dX10_spread_3 ?_
    obtain ⟨y2, e3⟩ : ∃ y, V0 45 4 = y := ⟨_, rfl⟩
    have b4 := hV0.get 45 4 (lo := 0) (hi := 60) (by decide) (by decide) rfl
    rw [e3] at b4
    refine pm_getf (v := y2) hC 45 fl_X10_63 rfl rfl (by decide) rfl e3 dX10_spread_6 ?_
    refine pm_iload_n hC 1 dX10_spread_9 rfl ?_
    refine pm_iadd hC dX10_spread_10 ?_
    refine pm_aload_n hC 0 (by decide) dX10_spread_11 rfl ?_
    refine pm_getf (v := 45) hC 73 fl_X10_59 rfl rfl (by decide) rfl e1 dX10_spread_12 ?_
    obtain ⟨y5, e6⟩ : ∃ y, V0 45 5 = y := ⟨_, rfl⟩
    have b7 := hV0.get 45 5 (lo := 0) (hi := 9) (by decide) (by decide) rfl
    rw [e6] at b7
    refine pm_getf (v := y5) hC 45 fl_X10_66 rfl rfl (by decide) rfl e6 dX10_spread_15 ?_
    refine pm_aload_n hC 0 (by decide) dX10_spread_18 rfl ?_
    obtain ⟨y8, e9⟩ : ∃ y, V0 73 3 = y := ⟨_, rfl⟩
    have b10 := hV0.get 73 3 (lo := 0) (hi := 9) (by decide) (by decide) rfl
    rw [e9] at b10
    refine pm_getf (v := y8) hC 73 fl_X10_18 rfl rfl (by decide) rfl e9 dX10_spread_19 ?_
    refine pm_imul hC dX10_spread_22 ?_
    have b12 : 0 ≤ (y5 * y8) ∧ (y5 * y8) ≤ 81 := pm_mulb (by omega) (by omega) (show y5 ≤ 9 by omega) (show y8 ≤ 9 by omega) (by decide)
    generalize (y5 * y8) = y11 at b12 ⊢
    refine pm_iadd hC dX10_spread_23 ?_
    refine pm_mmax hC 4011 4012 1018 4013 ⟨by decide, by decide⟩ ⟨by omega, by omega⟩ (by decide) wL_X10_69 wS_mmax wI_math wC_mmax (Nat.le_of_ble_eq_true rfl) dX10_spread_24 (fun y13 b14 => ?_)
    refine pm_putf hC 73 fl_X10_24 rfl rfl rfl (by decide) rfl trivial dX10_spread_27 ?_
    refine pm_aload_n hC 0 (by decide) dX10_spread_30 rfl ?_
    refine pm_iconst (v := 1) hC dX10_spread_31 ?_
    refine pm_aload_n hC 0 (by decide) dX10_spread_32 rfl ?_
    refine pm_getf (v := 45) hC 73 fl_X10_59 rfl rfl (by decide) rfl e1 dX10_spread_33 ?_
    obtain ⟨y15, e16⟩ : ∃ y, V0 45 6 = y := ⟨_, rfl⟩
    have b17 := hV0.get 45 6 (lo := 0) (hi := 60) (by decide) (by decide) rfl
    rw [e16] at b17
    refine pm_getf (v := y15) hC 45 fl_X10_75 rfl rfl (by decide) rfl e16 dX10_spread_36 ?_
    refine pm_iload_n hC 2 dX10_spread_39 rfl ?_
    refine pm_iadd hC dX10_spread_40 ?_
    refine pm_aload_n hC 0 (by decide) dX10_spread_41 rfl ?_
    refine pm_getf (v := 45) hC 73 fl_X10_59 rfl rfl (by decide) rfl e1 dX10_spread_42 ?_
    obtain ⟨y18, e19⟩ : ∃ y, V0 45 7 = y := ⟨_, rfl⟩
    have b20 := hV0.get 45 7 (lo := 0) (hi := 9) (by decide) (by decide) rfl
    rw [e19] at b20
    refine pm_getf (v := y18) hC 45 fl_X10_76 rfl rfl (by decide) rfl e19 dX10_spread_45 ?_
    refine pm_aload_n hC 0 (by decide) dX10_spread_48 rfl ?_
    obtain ⟨y21, e22⟩ : ∃ y, V0 73 4 = y := ⟨_, rfl⟩
    have b23 := hV0.get 73 4 (lo := 0) (hi := 9) (by decide) (by decide) rfl
    rw [e22] at b23
    refine pm_getf (v := y21) hC 73 fl_X10_21 rfl rfl (by decide) rfl e22 dX10_spread_49 ?_
    refine pm_imul hC dX10_spread_52 ?_
    have b25 : 0 ≤ (y18 * y21) ∧ (y18 * y21) ≤ 81 := pm_mulb (by omega) (by omega) (show y18 ≤ 9 by omega) (show y21 ≤ 9 by omega) (by decide)
    generalize (y18 * y21) = y24 at b25 ⊢
    refine pm_iadd hC dX10_spread_53 ?_
    refine pm_mmax hC 4011 4012 1018 4013 ⟨by decide, by decide⟩ ⟨by omega, by omega⟩ (by decide) wL_X10_69 wS_mmax wI_math wC_mmax (Nat.le_of_ble_eq_true rfl) dX10_spread_54 (fun y26 b27 => ?_)
    refine pm_putf hC 73 fl_X10_27 rfl rfl rfl (by decide) rfl trivial dX10_spread_57 ?_
    refine pm_aload_n hC 0 (by decide) dX10_spread_60 rfl ?_
    refine pm_lconst (x := 0) hC dX10_spread_61 rfl ?_
    refine pm_putf hC 73 fl_X10_41 rfl rfl rfl (by decide) rfl trivial dX10_spread_62 ?_
    refine pm_aload_n hC 0 (by decide) dX10_spread_65 rfl ?_
    refine pm_lconst (x := 0) hC dX10_spread_66 rfl ?_
    refine pm_putf hC 73 fl_X10_44 rfl rfl rfl (by decide) rfl trivial dX10_spread_67 ?_
    refine pm_aload_n hC 0 (by decide) dX10_spread_70 rfl ?_
    refine pm_lconst (x := 0) hC dX10_spread_71 rfl ?_
    refine pm_putf hC 73 fl_X10_47 rfl rfl rfl (by decide) rfl trivial dX10_spread_72 ?_
    refine pm_iconst (v := 0) hC dX10_spread_75 ?_
    refine pm_istore_n (lv' := [(3, (0, 0)), (0, (3, 73)), (1, (0, a1)), (2, (0, a2))]) hC dX10_spread_76 (by decide) rfl ?_
    have hV30 := (((((hV0.put 73 5 (x := y13) (lo := 1) (hi := 171) rfl ⟨by omega, by omega⟩).put 73 6 (x := y26) (lo := 1) (hi := 171) rfl ⟨by omega, by omega⟩).put 73 10 (x := 0) (lo := (-9223372036854775808)) (hi := 9223372036854775807) rfl ⟨by decide, by decide⟩).put 73 11 (x := 0) (lo := (-9223372036854775808)) (hi := 9223372036854775807) rfl ⟨by decide, by decide⟩).put 73 12 (x := 0) (lo := (-9223372036854775808)) (hi := 9223372036854775807) rfl ⟨by decide, by decide⟩)
    have hF31 := ((((((pm_fr.rf (ws := [73, 74, 75]) (V := V0)).up 73 5 y13 rfl).up 73 6 y26 rfl).up 73 10 0 rfl).up 73 11 0 rfl).up 73 12 0 rfl)
    obtain ⟨V28, hv29⟩ : ∃ V, V = (pm_up (pm_up (pm_up (pm_up (pm_up V0 73 5 y13) 73 6 y26) 73 10 0) 73 11 0) 73 12 0) := ⟨_, rfl⟩
    rw [← hv29] at hV30 hF31
    rw [← hv29]
    have e32 : V28 73 0 = 45 := by rw [hv29]; exact e1
    have e33 : V28 45 4 = y2 := by rw [hv29]; exact e3
    have e34 : V28 45 5 = y5 := by rw [hv29]; exact e6
    have e35 : V28 73 3 = y8 := by rw [hv29]; exact e9
    have e36 : V28 45 6 = y15 := by rw [hv29]; exact e16
    have e37 : V28 45 7 = y18 := by rw [hv29]; exact e19
    have e38 : V28 73 4 = y21 := by rw [hv29]; exact e22
    have e39 : V28 73 5 = y13 := by rw [hv29]; rfl
    have e40 : V28 73 6 = y26 := by rw [hv29]; rfl
    have e41 : V28 73 10 = 0 := by rw [hv29]; rfl
    have e42 : V28 73 11 = 0 := by rw [hv29]; rfl
    have e43 : V28 73 12 = 0 := by rw [hv29]; rfl
    have L53 : ∀ (N55 : Nat) (x44 : Int) (V46 : pm_M), (0 ≤ x44 ∧ x44 ≤ 9) → pm_ok 0 90 V46 → pm_fr [73, 74, 75] V0 V46 → V46 45 4 = y2 → V46 45 5 = y5 → V46 45 6 = y15 → V46 45 7 = y18 → (Int.toNat (9 - x44)) = N55 → pm_J X 77 [(0, (3, 73)), (1, (0, a1)), (2, (0, a2)), (3, (0, x44))] [] 118 V46 := by
      intro N55
      induction N55 using Nat.strongRecOn with
      | _ N55 ih56 =>
      intro x44 V46 b45 hV47 hF48 e49 e50 e51 e52 hm54
      refine pm_iload_n hC 3 dX10_spread_77 rfl ?_
      refine pm_aload_n hC 0 (by decide) dX10_spread_78 rfl ?_
      rcases hV47.get2 73 0 (lo := 45) (hi := 51) (by decide) (by decide) rfl with e57 | e57
      · skip
        refine pm_getf (v := 45) hC 73 fl_X10_59 rfl rfl (by decide) rfl e57 dX10_spread_79 ?_
        obtain ⟨y58, e59⟩ : ∃ y, V46 45 0 = y := ⟨_, rfl⟩
        have b60 := hV47.get 45 0 (lo := 0) (hi := 9) (by decide) (by decide) rfl
        rw [e59] at b60
        refine pm_getf (v := y58) hC 45 fl_X10_79 rfl rfl (by decide) rfl e59 dX10_spread_82 ?_
        refine pm_icmp_ge (tgt := 238) hC ⟨by omega, by omega⟩ ⟨by omega, by omega⟩ dX10_spread_85 (by decide) (fun c61 => ?_) (fun c61 => ?_)
        · skip
          exact pm_vret hC hR ⟨rfl, hV47, hF48⟩ dX10_spread_238
        · skip
          refine pm_aload_n hC 0 (by decide) dX10_spread_88 rfl ?_
          refine pm_getf (v := 45) hC 73 fl_X10_59 rfl rfl (by decide) rfl e57 dX10_spread_89 ?_
          have e62 : V46 45 1 = 46 := hV47.one 45 1 (by decide) (by decide) rfl
          refine pm_getf (v := 46) hC 45 fl_X10_82 rfl rfl (by decide) rfl e62 dX10_spread_92 ?_
          refine pm_iload_n hC 3 dX10_spread_95 rfl ?_
          obtain ⟨y63, e64⟩ : ∃ y, V46 46 (x44 : Int).toNat = y := ⟨_, rfl⟩
          have b65 := hV47.get 46 (x44 : Int).toNat (lo := 0) (hi := 99) (by decide) (show _ < 9 by omega) rfl
          rw [e64] at b65
          refine pm_iaload (len := 9) (v := y63) hC 46 rfl rfl (by decide) ⟨by omega, by omega⟩ (by decide) e64 dX10_spread_96 ?_
          refine pm_aload_n hC 0 (by decide) dX10_spread_97 rfl ?_
          refine pm_getf (v := 45) hC 73 fl_X10_59 rfl rfl (by decide) rfl e57 dX10_spread_98 ?_
          refine pm_getf (v := 46) hC 45 fl_X10_82 rfl rfl (by decide) rfl e62 dX10_spread_101 ?_
          refine pm_aload_n hC 0 (by decide) dX10_spread_104 rfl ?_
          obtain ⟨y66, e67⟩ : ∃ y, V46 73 2 = y := ⟨_, rfl⟩
          have b68 := hV47.get 73 2 (lo := 0) (hi := 8) (by decide) (by decide) rfl
          rw [e67] at b68
          refine pm_getf (v := y66) hC 73 fl_X10_15 rfl rfl (by decide) rfl e67 dX10_spread_105 ?_
          obtain ⟨y69, e70⟩ : ∃ y, V46 46 (y66 : Int).toNat = y := ⟨_, rfl⟩
          have b71 := hV47.get 46 (y66 : Int).toNat (lo := 0) (hi := 99) (by decide) (show _ < 9 by omega) rfl
          rw [e70] at b71
          refine pm_iaload (len := 9) (v := y69) hC 46 rfl rfl (by decide) ⟨by omega, by omega⟩ (by decide) e70 dX10_spread_108 ?_
          refine pm_isub hC dX10_spread_109 ?_
          refine pm_mabs hC 4014 4015 1018 4016 ⟨by omega, by omega⟩ (by decide) wL_X10_86 wS_mabs wI_math wC_mabs (Nat.le_of_ble_eq_true rfl) dX10_spread_110 (fun y72 b73 => ?_)
          have b73 := And.intro b73.1.1 (And.intro b73.1.2 b73.2)
          refine pm_istore (lv' := [(4, (0, y72)), (0, (3, 73)), (1, (0, a1)), (2, (0, a2)), (3, (0, x44))]) hC dX10_spread_113 (by decide) rfl ?_
          refine pm_aload_n hC 1 (by decide) dX10_spread_115 rfl ?_
          refine pm_getf (v := 45) hC 73 fl_X10_59 rfl rfl (by decide) rfl e57 dX10_spread_116 ?_
          have e74 : V46 45 3 = 48 := hV47.one 45 3 (by decide) (by decide) rfl
          refine pm_getf (v := 48) hC 45 fl_X10_90 rfl rfl (by decide) rfl e74 dX10_spread_119 ?_
          refine pm_iload_n hC 4 dX10_spread_122 rfl ?_
          obtain ⟨y75, e76⟩ : ∃ y, V46 48 (x44 : Int).toNat = y := ⟨_, rfl⟩
          have b77 := hV47.get 48 (x44 : Int).toNat (lo := 0) (hi := 9) (by decide) (show _ < 9 by omega) rfl
          rw [e76] at b77
          refine pm_iaload (len := 9) (v := y75) hC 48 rfl rfl (by decide) ⟨by omega, by omega⟩ (by decide) e76 dX10_spread_123 ?_
          refine pm_iconst (v := 0) hC dX10_spread_124 ?_
          refine pm_aload_n hC 1 (by decide) dX10_spread_125 rfl ?_
          obtain ⟨y78, e79⟩ : ∃ y, V46 73 5 = y := ⟨_, rfl⟩
          have b80 := hV47.get 73 5 (lo := 1) (hi := 171) (by decide) (by decide) rfl
          rw [e79] at b80
          refine pm_getf (v := y78) hC 73 fl_X10_24 rfl rfl (by decide) rfl e79 dX10_spread_126 ?_
          refine pm_aload_n hC 1 (by decide) dX10_spread_129 rfl ?_
          refine pm_iload_n hC 4 dX10_spread_130 rfl ?_
          refine pm_aload_n hC 1 (by decide) dX10_spread_131 rfl ?_
          refine pm_getf (v := 45) hC 73 fl_X10_59 rfl rfl (by decide) rfl e57 dX10_spread_132 ?_
          refine pm_getf (v := 46) hC 45 fl_X10_82 rfl rfl (by decide) rfl e62 dX10_spread_135 ?_
          refine pm_aload_n hC 1 (by decide) dX10_spread_138 rfl ?_
          obtain ⟨y81, e82⟩ : ∃ y, V46 73 1 = y := ⟨_, rfl⟩
          have b83 := hV47.get 73 1 (lo := 0) (hi := 8) (by decide) (by decide) rfl
          rw [e82] at b83
          refine pm_getf (v := y81) hC 73 fl_X10_9 rfl rfl (by decide) rfl e82 dX10_spread_139 ?_
          obtain ⟨y84, e85⟩ : ∃ y, V46 46 (y81 : Int).toNat = y := ⟨_, rfl⟩
          have b86 := hV47.get 46 (y81 : Int).toNat (lo := 0) (hi := 99) (by decide) (show _ < 9 by omega) rfl
          rw [e85] at b86
          refine pm_iaload (len := 9) (v := y84) hC 46 rfl rfl (by decide) ⟨by omega, by omega⟩ (by decide) e85 dX10_spread_142 ?_
          refine pm_aload_n hC 1 (by decide) dX10_spread_143 rfl ?_
          refine pm_getf (v := 45) hC 73 fl_X10_59 rfl rfl (by decide) rfl e57 dX10_spread_144 ?_
          have e87 : V46 45 2 = 47 := hV47.one 45 2 (by decide) (by decide) rfl
          refine pm_getf (v := 47) hC 45 fl_X10_93 rfl rfl (by decide) rfl e87 dX10_spread_147 ?_
          refine pm_aload_n hC 1 (by decide) dX10_spread_150 rfl ?_
          refine pm_getf (v := y81) hC 73 fl_X10_9 rfl rfl (by decide) rfl e82 dX10_spread_151 ?_
          obtain ⟨y88, e89⟩ : ∃ y, V46 47 (y81 : Int).toNat = y := ⟨_, rfl⟩
          have b90 := hV47.get 47 (y81 : Int).toNat (lo := 0) (hi := 99) (by decide) (show _ < 9 by omega) rfl
          rw [e89] at b90
          refine pm_iaload (len := 9) (v := y88) hC 47 rfl rfl (by decide) ⟨by omega, by omega⟩ (by decide) e89 dX10_spread_154 ?_
          refine pm_callV (ci := 10) (as := [(0, x44), (0, y84), (0, y88)]) (st := [(0, y78), (0, 0), (0, y75)]) hC 73 (c_X10_farFrom_73 x44 y84 y88 ⟨by omega, by omega⟩ ⟨by omega, by omega⟩ ⟨by omega, by omega⟩) lm_X10_96 li_X10_farFrom (by decide) (by decide) rfl rfl rfl (by decide) rfl rfl (Nat.le_of_ble_eq_true rfl) ⟨Nat.le_refl _, Or.inl rfl⟩ dX10_spread_155 ⟨rfl, hV47⟩ (fun r91 V92 hp93 => ?_)
          obtain ⟨y94, rfl, b95, rfl⟩ := hp93
          change pm_J X 158 [(4, (0, y72)), (0, (3, 73)), (1, (0, a1)), (2, (0, a2)), (3, (0, x44))] [(0, y94), (0, y78), (0, 0), (0, y75)] 118 V46
          refine pm_isub hC dX10_spread_158 ?_
          refine pm_mmax hC 4011 4012 1018 4013 ⟨by decide, by decide⟩ ⟨by omega, by omega⟩ (by decide) wL_X10_69 wS_mmax wI_math wC_mmax (Nat.le_of_ble_eq_true rfl) dX10_spread_159 (fun y96 b97 => ?_)
          refine pm_imul hC dX10_spread_162 ?_
          have b99 : 0 ≤ (y75 * y96) ∧ (y75 * y96) ≤ 1539 := pm_mulb (by omega) (by omega) (show y75 ≤ 9 by omega) (show y96 ≤ 171 by omega) (by decide)
          generalize (y75 * y96) = y98 at b99 ⊢
          refine pm_i2l hC ⟨by omega, by omega⟩ dX10_spread_163 ?_
          refine pm_lstore (lv' := [(5, (1, y98)), (4, (0, y72)), (0, (3, 73)), (1, (0, a1)), (2, (0, a2)), (3, (0, x44))]) hC dX10_spread_164 (by decide) rfl ?_
          refine pm_iconst (v := 0) hC dX10_spread_166 ?_
          refine pm_aload_n hC 2 (by decide) dX10_spread_167 rfl ?_
          obtain ⟨y100, e101⟩ : ∃ y, V46 73 6 = y := ⟨_, rfl⟩
          have b102 := hV47.get 73 6 (lo := 1) (hi := 171) (by decide) (by decide) rfl
          rw [e101] at b102
          refine pm_getf (v := y100) hC 73 fl_X10_27 rfl rfl (by decide) rfl e101 dX10_spread_168 ?_
          refine pm_iload hC 1 dX10_spread_171 rfl ?_
          refine pm_isub hC dX10_spread_173 ?_
          refine pm_mmax hC 4011 4012 1018 4013 ⟨by decide, by decide⟩ ⟨by omega, by omega⟩ (by decide) wL_X10_69 wS_mmax wI_math wC_mmax (Nat.le_of_ble_eq_true rfl) dX10_spread_174 (fun y103 b104 => ?_)
          refine pm_i2l hC ⟨by omega, by omega⟩ dX10_spread_177 ?_
          refine pm_lstore (lv' := [(7, (1, y103)), (5, (1, y98)), (4, (0, y72)), (0, (3, 73)), (1, (0, a1)), (2, (0, a2)), (3, (0, x44))]) hC dX10_spread_178 (by decide) rfl ?_
          refine pm_aload_n hC 3 (by decide) dX10_spread_180 rfl ?_
          have e105 : V46 73 8 = 74 := hV47.one 73 8 (by decide) (by decide) rfl
          refine pm_getf (v := 74) hC 73 fl_X10_34 rfl rfl (by decide) rfl e105 dX10_spread_181 ?_
          refine pm_iload_n hC 6 dX10_spread_184 rfl ?_
          refine pm_lload hC 1 dX10_spread_185 rfl ?_
          refine pm_lastore (len := 9) hC 74 rfl rfl (by decide) ⟨by omega, by omega⟩ (by decide) dX10_spread_187 ?_
          refine pm_aload_n hC 3 (by decide) dX10_spread_188 rfl ?_
          have e106 : V46 73 9 = 75 := hV47.one 73 9 (by decide) (by decide) rfl
          refine pm_getf (v := 75) hC 73 fl_X10_38 rfl rfl (by decide) rfl e106 dX10_spread_189 ?_
          refine pm_iload_n hC 6 dX10_spread_192 rfl ?_
          refine pm_lload hC 0 dX10_spread_193 rfl ?_
          refine pm_lastore (len := 9) hC 75 rfl rfl (by decide) ⟨by omega, by omega⟩ (by decide) dX10_spread_195 ?_
          refine pm_aload_n hC 3 (by decide) dX10_spread_196 rfl ?_
          refine pm_dup hC rfl dX10_spread_197 ?_
          obtain ⟨y107, e108⟩ : ∃ y, V46 73 10 = y := ⟨_, rfl⟩
          have b109 := hV47.get 73 10 (lo := (-9223372036854775808)) (hi := 9223372036854775807) (by decide) (by decide) rfl
          rw [e108] at b109
          refine pm_getf (v := y107) hC 73 fl_X10_41 rfl rfl (by decide) rfl e108 dX10_spread_198 ?_
          refine pm_lload hC 1 dX10_spread_201 rfl ?_
          refine pm_ladd hC dX10_spread_203 ?_
          refine pm_someL hC (fun y110 b111 => ?_)
          have b111 := And.intro b111.1 b111.2
          refine pm_putf hC 73 fl_X10_41 rfl rfl rfl (by decide) rfl trivial dX10_spread_204 ?_
          refine pm_aload_n hC 3 (by decide) dX10_spread_207 rfl ?_
          refine pm_dup hC rfl dX10_spread_208 ?_
          obtain ⟨y112, e113⟩ : ∃ y, V46 73 11 = y := ⟨_, rfl⟩
          have b114 := hV47.get 73 11 (lo := (-9223372036854775808)) (hi := 9223372036854775807) (by decide) (by decide) rfl
          rw [e113] at b114
          refine pm_getf (v := y112) hC 73 fl_X10_44 rfl rfl (by decide) rfl e113 dX10_spread_209 ?_
          refine pm_lload hC 0 dX10_spread_212 rfl ?_
          refine pm_ladd hC dX10_spread_214 ?_
          refine pm_someL hC (fun y115 b116 => ?_)
          have b116 := And.intro b116.1 b116.2
          refine pm_putf hC 73 fl_X10_44 rfl rfl rfl (by decide) rfl trivial dX10_spread_215 ?_
          refine pm_aload_n hC 3 (by decide) dX10_spread_218 rfl ?_
          refine pm_dup hC rfl dX10_spread_219 ?_
          obtain ⟨y117, e118⟩ : ∃ y, V46 73 12 = y := ⟨_, rfl⟩
          have b119 := hV47.get 73 12 (lo := (-9223372036854775808)) (hi := 9223372036854775807) (by decide) (by decide) rfl
          rw [e118] at b119
          refine pm_getf (v := y117) hC 73 fl_X10_47 rfl rfl (by decide) rfl e118 dX10_spread_220 ?_
          refine pm_lload hC 1 dX10_spread_223 rfl ?_
          refine pm_lload hC 0 dX10_spread_225 rfl ?_
          refine pm_lmul hC dX10_spread_227 ?_
          have b121 : 0 ≤ (y98 * y103) ∧ (y98 * y103) ≤ 263169 := pm_mulb (by omega) (by omega) (show y98 ≤ 1539 by omega) (show y103 ≤ 171 by omega) (by decide)
          generalize (y98 * y103) = y120 at b121 ⊢
          refine pm_ladd hC dX10_spread_228 ?_
          refine pm_someL hC (fun y122 b123 => ?_)
          have b123 := And.intro b123.1 b123.2
          refine pm_putf hC 73 fl_X10_47 rfl rfl rfl (by decide) rfl trivial dX10_spread_229 ?_
          obtain ⟨x124, ei125⟩ : ∃ y : Int, x44 + 1 = y := ⟨_, rfl⟩
          refine pm_iinc (y := x124) (lv' := [(3, (0, x124)), (7, (1, y103)), (5, (1, y98)), (4, (0, y72)), (0, (3, 73)), (1, (0, a1)), (2, (0, a2))]) hC 6 dX10_spread_232 (by decide) rfl ei125 rfl ?_
          refine pm_goto (tgt := 77) hC dX10_spread_235 (by decide) ?_
          refine pm_lvsub [4, 5, 6, 0] (lv' := [(0, (3, 73)), (1, (0, a1)), (2, (0, a2)), (3, (0, x124))]) rfl ?_
          exact ih56 _ (by omega) x124 (pm_up (pm_up (pm_up (pm_up (pm_up V46 74 (x44 : Int).toNat y98) 75 (x44 : Int).toNat y103) 73 10 y110) 73 11 y115) 73 12 y122) ⟨by omega, by omega⟩ (((((hV47.put 74 (x44 : Int).toNat (x := y98) (lo := (-9223372036854775808)) (hi := 9223372036854775807) rfl ⟨by omega, by omega⟩).put 75 (x44 : Int).toNat (x := y103) (lo := (-9223372036854775808)) (hi := 9223372036854775807) rfl ⟨by omega, by omega⟩).put 73 10 (x := y110) (lo := (-9223372036854775808)) (hi := 9223372036854775807) rfl ⟨by omega, by omega⟩).put 73 11 (x := y115) (lo := (-9223372036854775808)) (hi := 9223372036854775807) rfl ⟨by omega, by omega⟩).put 73 12 (x := y122) (lo := (-9223372036854775808)) (hi := 9223372036854775807) rfl ⟨by omega, by omega⟩) (((((hF48.up 74 (x44 : Int).toNat y98 rfl).up 75 (x44 : Int).toNat y103 rfl).up 73 10 y110 rfl).up 73 11 y115 rfl).up 73 12 y122 rfl) e49 e50 e51 e52 rfl
      · skip
        refine pm_getf (v := 51) hC 73 fl_X10_59 rfl rfl (by decide) rfl e57 dX10_spread_79 ?_
        obtain ⟨y126, e127⟩ : ∃ y, V46 51 0 = y := ⟨_, rfl⟩
        have b128 := hV47.get 51 0 (lo := 0) (hi := 9) (by decide) (by decide) rfl
        rw [e127] at b128
        refine pm_getf (v := y126) hC 51 fl_X10_79 rfl rfl (by decide) rfl e127 dX10_spread_82 ?_
        refine pm_icmp_ge (tgt := 238) hC ⟨by omega, by omega⟩ ⟨by omega, by omega⟩ dX10_spread_85 (by decide) (fun c129 => ?_) (fun c129 => ?_)
        · skip
          exact pm_vret hC hR ⟨rfl, hV47, hF48⟩ dX10_spread_238
        · skip
          refine pm_aload_n hC 0 (by decide) dX10_spread_88 rfl ?_
          refine pm_getf (v := 51) hC 73 fl_X10_59 rfl rfl (by decide) rfl e57 dX10_spread_89 ?_
          have e130 : V46 51 1 = 52 := hV47.one 51 1 (by decide) (by decide) rfl
          refine pm_getf (v := 52) hC 51 fl_X10_82 rfl rfl (by decide) rfl e130 dX10_spread_92 ?_
          refine pm_iload_n hC 3 dX10_spread_95 rfl ?_
          obtain ⟨y131, e132⟩ : ∃ y, V46 52 (x44 : Int).toNat = y := ⟨_, rfl⟩
          have b133 := hV47.get 52 (x44 : Int).toNat (lo := 0) (hi := 99) (by decide) (show _ < 9 by omega) rfl
          rw [e132] at b133
          refine pm_iaload (len := 9) (v := y131) hC 52 rfl rfl (by decide) ⟨by omega, by omega⟩ (by decide) e132 dX10_spread_96 ?_
          refine pm_aload_n hC 0 (by decide) dX10_spread_97 rfl ?_
          refine pm_getf (v := 51) hC 73 fl_X10_59 rfl rfl (by decide) rfl e57 dX10_spread_98 ?_
          refine pm_getf (v := 52) hC 51 fl_X10_82 rfl rfl (by decide) rfl e130 dX10_spread_101 ?_
          refine pm_aload_n hC 0 (by decide) dX10_spread_104 rfl ?_
          obtain ⟨y134, e135⟩ : ∃ y, V46 73 2 = y := ⟨_, rfl⟩
          have b136 := hV47.get 73 2 (lo := 0) (hi := 8) (by decide) (by decide) rfl
          rw [e135] at b136
          refine pm_getf (v := y134) hC 73 fl_X10_15 rfl rfl (by decide) rfl e135 dX10_spread_105 ?_
          obtain ⟨y137, e138⟩ : ∃ y, V46 52 (y134 : Int).toNat = y := ⟨_, rfl⟩
          have b139 := hV47.get 52 (y134 : Int).toNat (lo := 0) (hi := 99) (by decide) (show _ < 9 by omega) rfl
          rw [e138] at b139
          refine pm_iaload (len := 9) (v := y137) hC 52 rfl rfl (by decide) ⟨by omega, by omega⟩ (by decide) e138 dX10_spread_108 ?_
          refine pm_isub hC dX10_spread_109 ?_
          refine pm_mabs hC 4014 4015 1018 4016 ⟨by omega, by omega⟩ (by decide) wL_X10_86 wS_mabs wI_math wC_mabs (Nat.le_of_ble_eq_true rfl) dX10_spread_110 (fun y140 b141 => ?_)
          have b141 := And.intro b141.1.1 (And.intro b141.1.2 b141.2)
          refine pm_istore (lv' := [(4, (0, y140)), (0, (3, 73)), (1, (0, a1)), (2, (0, a2)), (3, (0, x44))]) hC dX10_spread_113 (by decide) rfl ?_
          refine pm_aload_n hC 1 (by decide) dX10_spread_115 rfl ?_
          refine pm_getf (v := 51) hC 73 fl_X10_59 rfl rfl (by decide) rfl e57 dX10_spread_116 ?_
          have e142 : V46 51 3 = 54 := hV47.one 51 3 (by decide) (by decide) rfl
          refine pm_getf (v := 54) hC 51 fl_X10_90 rfl rfl (by decide) rfl e142 dX10_spread_119 ?_
          refine pm_iload_n hC 4 dX10_spread_122 rfl ?_
          obtain ⟨y143, e144⟩ : ∃ y, V46 54 (x44 : Int).toNat = y := ⟨_, rfl⟩
          have b145 := hV47.get 54 (x44 : Int).toNat (lo := 0) (hi := 9) (by decide) (show _ < 9 by omega) rfl
          rw [e144] at b145
          refine pm_iaload (len := 9) (v := y143) hC 54 rfl rfl (by decide) ⟨by omega, by omega⟩ (by decide) e144 dX10_spread_123 ?_
          refine pm_iconst (v := 0) hC dX10_spread_124 ?_
          refine pm_aload_n hC 1 (by decide) dX10_spread_125 rfl ?_
          obtain ⟨y146, e147⟩ : ∃ y, V46 73 5 = y := ⟨_, rfl⟩
          have b148 := hV47.get 73 5 (lo := 1) (hi := 171) (by decide) (by decide) rfl
          rw [e147] at b148
          refine pm_getf (v := y146) hC 73 fl_X10_24 rfl rfl (by decide) rfl e147 dX10_spread_126 ?_
          refine pm_aload_n hC 1 (by decide) dX10_spread_129 rfl ?_
          refine pm_iload_n hC 4 dX10_spread_130 rfl ?_
          refine pm_aload_n hC 1 (by decide) dX10_spread_131 rfl ?_
          refine pm_getf (v := 51) hC 73 fl_X10_59 rfl rfl (by decide) rfl e57 dX10_spread_132 ?_
          refine pm_getf (v := 52) hC 51 fl_X10_82 rfl rfl (by decide) rfl e130 dX10_spread_135 ?_
          refine pm_aload_n hC 1 (by decide) dX10_spread_138 rfl ?_
          obtain ⟨y149, e150⟩ : ∃ y, V46 73 1 = y := ⟨_, rfl⟩
          have b151 := hV47.get 73 1 (lo := 0) (hi := 8) (by decide) (by decide) rfl
          rw [e150] at b151
          refine pm_getf (v := y149) hC 73 fl_X10_9 rfl rfl (by decide) rfl e150 dX10_spread_139 ?_
          obtain ⟨y152, e153⟩ : ∃ y, V46 52 (y149 : Int).toNat = y := ⟨_, rfl⟩
          have b154 := hV47.get 52 (y149 : Int).toNat (lo := 0) (hi := 99) (by decide) (show _ < 9 by omega) rfl
          rw [e153] at b154
          refine pm_iaload (len := 9) (v := y152) hC 52 rfl rfl (by decide) ⟨by omega, by omega⟩ (by decide) e153 dX10_spread_142 ?_
          refine pm_aload_n hC 1 (by decide) dX10_spread_143 rfl ?_
          refine pm_getf (v := 51) hC 73 fl_X10_59 rfl rfl (by decide) rfl e57 dX10_spread_144 ?_
          have e155 : V46 51 2 = 53 := hV47.one 51 2 (by decide) (by decide) rfl
          refine pm_getf (v := 53) hC 51 fl_X10_93 rfl rfl (by decide) rfl e155 dX10_spread_147 ?_
          refine pm_aload_n hC 1 (by decide) dX10_spread_150 rfl ?_
          refine pm_getf (v := y149) hC 73 fl_X10_9 rfl rfl (by decide) rfl e150 dX10_spread_151 ?_
          obtain ⟨y156, e157⟩ : ∃ y, V46 53 (y149 : Int).toNat = y := ⟨_, rfl⟩
          have b158 := hV47.get 53 (y149 : Int).toNat (lo := 0) (hi := 99) (by decide) (show _ < 9 by omega) rfl
          rw [e157] at b158
          refine pm_iaload (len := 9) (v := y156) hC 53 rfl rfl (by decide) ⟨by omega, by omega⟩ (by decide) e157 dX10_spread_154 ?_
          refine pm_callV (ci := 10) (as := [(0, x44), (0, y152), (0, y156)]) (st := [(0, y146), (0, 0), (0, y143)]) hC 73 (c_X10_farFrom_73 x44 y152 y156 ⟨by omega, by omega⟩ ⟨by omega, by omega⟩ ⟨by omega, by omega⟩) lm_X10_96 li_X10_farFrom (by decide) (by decide) rfl rfl rfl (by decide) rfl rfl (Nat.le_of_ble_eq_true rfl) ⟨Nat.le_refl _, Or.inl rfl⟩ dX10_spread_155 ⟨rfl, hV47⟩ (fun r159 V160 hp161 => ?_)
          obtain ⟨y162, rfl, b163, rfl⟩ := hp161
          change pm_J X 158 [(4, (0, y140)), (0, (3, 73)), (1, (0, a1)), (2, (0, a2)), (3, (0, x44))] [(0, y162), (0, y146), (0, 0), (0, y143)] 118 V46
          refine pm_isub hC dX10_spread_158 ?_
          refine pm_mmax hC 4011 4012 1018 4013 ⟨by decide, by decide⟩ ⟨by omega, by omega⟩ (by decide) wL_X10_69 wS_mmax wI_math wC_mmax (Nat.le_of_ble_eq_true rfl) dX10_spread_159 (fun y164 b165 => ?_)
          refine pm_imul hC dX10_spread_162 ?_
          have b167 : 0 ≤ (y143 * y164) ∧ (y143 * y164) ≤ 1539 := pm_mulb (by omega) (by omega) (show y143 ≤ 9 by omega) (show y164 ≤ 171 by omega) (by decide)
          generalize (y143 * y164) = y166 at b167 ⊢
          refine pm_i2l hC ⟨by omega, by omega⟩ dX10_spread_163 ?_
          refine pm_lstore (lv' := [(5, (1, y166)), (4, (0, y140)), (0, (3, 73)), (1, (0, a1)), (2, (0, a2)), (3, (0, x44))]) hC dX10_spread_164 (by decide) rfl ?_
          refine pm_iconst (v := 0) hC dX10_spread_166 ?_
          refine pm_aload_n hC 2 (by decide) dX10_spread_167 rfl ?_
          obtain ⟨y168, e169⟩ : ∃ y, V46 73 6 = y := ⟨_, rfl⟩
          have b170 := hV47.get 73 6 (lo := 1) (hi := 171) (by decide) (by decide) rfl
          rw [e169] at b170
          refine pm_getf (v := y168) hC 73 fl_X10_27 rfl rfl (by decide) rfl e169 dX10_spread_168 ?_
          refine pm_iload hC 1 dX10_spread_171 rfl ?_
          refine pm_isub hC dX10_spread_173 ?_
          refine pm_mmax hC 4011 4012 1018 4013 ⟨by decide, by decide⟩ ⟨by omega, by omega⟩ (by decide) wL_X10_69 wS_mmax wI_math wC_mmax (Nat.le_of_ble_eq_true rfl) dX10_spread_174 (fun y171 b172 => ?_)
          refine pm_i2l hC ⟨by omega, by omega⟩ dX10_spread_177 ?_
          refine pm_lstore (lv' := [(7, (1, y171)), (5, (1, y166)), (4, (0, y140)), (0, (3, 73)), (1, (0, a1)), (2, (0, a2)), (3, (0, x44))]) hC dX10_spread_178 (by decide) rfl ?_
          refine pm_aload_n hC 3 (by decide) dX10_spread_180 rfl ?_
          have e173 : V46 73 8 = 74 := hV47.one 73 8 (by decide) (by decide) rfl
          refine pm_getf (v := 74) hC 73 fl_X10_34 rfl rfl (by decide) rfl e173 dX10_spread_181 ?_
          refine pm_iload_n hC 6 dX10_spread_184 rfl ?_
          refine pm_lload hC 1 dX10_spread_185 rfl ?_
          refine pm_lastore (len := 9) hC 74 rfl rfl (by decide) ⟨by omega, by omega⟩ (by decide) dX10_spread_187 ?_
          refine pm_aload_n hC 3 (by decide) dX10_spread_188 rfl ?_
          have e174 : V46 73 9 = 75 := hV47.one 73 9 (by decide) (by decide) rfl
          refine pm_getf (v := 75) hC 73 fl_X10_38 rfl rfl (by decide) rfl e174 dX10_spread_189 ?_
          refine pm_iload_n hC 6 dX10_spread_192 rfl ?_
          refine pm_lload hC 0 dX10_spread_193 rfl ?_
          refine pm_lastore (len := 9) hC 75 rfl rfl (by decide) ⟨by omega, by omega⟩ (by decide) dX10_spread_195 ?_
          refine pm_aload_n hC 3 (by decide) dX10_spread_196 rfl ?_
          refine pm_dup hC rfl dX10_spread_197 ?_
          obtain ⟨y175, e176⟩ : ∃ y, V46 73 10 = y := ⟨_, rfl⟩
          have b177 := hV47.get 73 10 (lo := (-9223372036854775808)) (hi := 9223372036854775807) (by decide) (by decide) rfl
          rw [e176] at b177
          refine pm_getf (v := y175) hC 73 fl_X10_41 rfl rfl (by decide) rfl e176 dX10_spread_198 ?_
          refine pm_lload hC 1 dX10_spread_201 rfl ?_
          refine pm_ladd hC dX10_spread_203 ?_
          refine pm_someL hC (fun y178 b179 => ?_)
          have b179 := And.intro b179.1 b179.2
          refine pm_putf hC 73 fl_X10_41 rfl rfl rfl (by decide) rfl trivial dX10_spread_204 ?_
          refine pm_aload_n hC 3 (by decide) dX10_spread_207 rfl ?_
          refine pm_dup hC rfl dX10_spread_208 ?_
          obtain ⟨y180, e181⟩ : ∃ y, V46 73 11 = y := ⟨_, rfl⟩
          have b182 := hV47.get 73 11 (lo := (-9223372036854775808)) (hi := 9223372036854775807) (by decide) (by decide) rfl
          rw [e181] at b182
          refine pm_getf (v := y180) hC 73 fl_X10_44 rfl rfl (by decide) rfl e181 dX10_spread_209 ?_
          refine pm_lload hC 0 dX10_spread_212 rfl ?_
          refine pm_ladd hC dX10_spread_214 ?_
          refine pm_someL hC (fun y183 b184 => ?_)
          have b184 := And.intro b184.1 b184.2
          refine pm_putf hC 73 fl_X10_44 rfl rfl rfl (by decide) rfl trivial dX10_spread_215 ?_
          refine pm_aload_n hC 3 (by decide) dX10_spread_218 rfl ?_
          refine pm_dup hC rfl dX10_spread_219 ?_
          obtain ⟨y185, e186⟩ : ∃ y, V46 73 12 = y := ⟨_, rfl⟩
          have b187 := hV47.get 73 12 (lo := (-9223372036854775808)) (hi := 9223372036854775807) (by decide) (by decide) rfl
          rw [e186] at b187
          refine pm_getf (v := y185) hC 73 fl_X10_47 rfl rfl (by decide) rfl e186 dX10_spread_220 ?_
          refine pm_lload hC 1 dX10_spread_223 rfl ?_
          refine pm_lload hC 0 dX10_spread_225 rfl ?_
          refine pm_lmul hC dX10_spread_227 ?_
          have b189 : 0 ≤ (y166 * y171) ∧ (y166 * y171) ≤ 263169 := pm_mulb (by omega) (by omega) (show y166 ≤ 1539 by omega) (show y171 ≤ 171 by omega) (by decide)
          generalize (y166 * y171) = y188 at b189 ⊢
          refine pm_ladd hC dX10_spread_228 ?_
          refine pm_someL hC (fun y190 b191 => ?_)
          have b191 := And.intro b191.1 b191.2
          refine pm_putf hC 73 fl_X10_47 rfl rfl rfl (by decide) rfl trivial dX10_spread_229 ?_
          obtain ⟨x192, ei193⟩ : ∃ y : Int, x44 + 1 = y := ⟨_, rfl⟩
          refine pm_iinc (y := x192) (lv' := [(3, (0, x192)), (7, (1, y171)), (5, (1, y166)), (4, (0, y140)), (0, (3, 73)), (1, (0, a1)), (2, (0, a2))]) hC 6 dX10_spread_232 (by decide) rfl ei193 rfl ?_
          refine pm_goto (tgt := 77) hC dX10_spread_235 (by decide) ?_
          refine pm_lvsub [4, 5, 6, 0] (lv' := [(0, (3, 73)), (1, (0, a1)), (2, (0, a2)), (3, (0, x192))]) rfl ?_
          exact ih56 _ (by omega) x192 (pm_up (pm_up (pm_up (pm_up (pm_up V46 74 (x44 : Int).toNat y166) 75 (x44 : Int).toNat y171) 73 10 y178) 73 11 y183) 73 12 y190) ⟨by omega, by omega⟩ (((((hV47.put 74 (x44 : Int).toNat (x := y166) (lo := (-9223372036854775808)) (hi := 9223372036854775807) rfl ⟨by omega, by omega⟩).put 75 (x44 : Int).toNat (x := y171) (lo := (-9223372036854775808)) (hi := 9223372036854775807) rfl ⟨by omega, by omega⟩).put 73 10 (x := y178) (lo := (-9223372036854775808)) (hi := 9223372036854775807) rfl ⟨by omega, by omega⟩).put 73 11 (x := y183) (lo := (-9223372036854775808)) (hi := 9223372036854775807) rfl ⟨by omega, by omega⟩).put 73 12 (x := y190) (lo := (-9223372036854775808)) (hi := 9223372036854775807) rfl ⟨by omega, by omega⟩) (((((hF48.up 74 (x44 : Int).toNat y166 rfl).up 75 (x44 : Int).toNat y171 rfl).up 73 10 y178 rfl).up 73 11 y183 rfl).up 73 12 y190 rfl) e49 e50 e51 e52 rfl
    refine pm_lvsub [1, 2, 3, 0] (lv' := [(0, (3, 73)), (1, (0, a1)), (2, (0, a2)), (3, (0, 0))]) rfl ?_
    exact L53 _ 0 V28 ⟨by decide, by decide⟩ hV30 hF31 e33 e34 e36 e37 rfl
  · skip
    refine pm_getf (v := 51) hC 73 fl_X10_59 rfl rfl (by decide) rfl e1 dX10_spread_3 ?_
    obtain ⟨y194, e195⟩ : ∃ y, V0 51 4 = y := ⟨_, rfl⟩
    have b196 := hV0.get 51 4 (lo := 0) (hi := 60) (by decide) (by decide) rfl
    rw [e195] at b196
    refine pm_getf (v := y194) hC 51 fl_X10_63 rfl rfl (by decide) rfl e195 dX10_spread_6 ?_
    refine pm_iload_n hC 1 dX10_spread_9 rfl ?_
    refine pm_iadd hC dX10_spread_10 ?_
    refine pm_aload_n hC 0 (by decide) dX10_spread_11 rfl ?_
    refine pm_getf (v := 51) hC 73 fl_X10_59 rfl rfl (by decide) rfl e1 dX10_spread_12 ?_
    obtain ⟨y197, e198⟩ : ∃ y, V0 51 5 = y := ⟨_, rfl⟩
    have b199 := hV0.get 51 5 (lo := 0) (hi := 9) (by decide) (by decide) rfl
    rw [e198] at b199
    refine pm_getf (v := y197) hC 51 fl_X10_66 rfl rfl (by decide) rfl e198 dX10_spread_15 ?_
    refine pm_aload_n hC 0 (by decide) dX10_spread_18 rfl ?_
    obtain ⟨y200, e201⟩ : ∃ y, V0 73 3 = y := ⟨_, rfl⟩
    have b202 := hV0.get 73 3 (lo := 0) (hi := 9) (by decide) (by decide) rfl
    rw [e201] at b202
    refine pm_getf (v := y200) hC 73 fl_X10_18 rfl rfl (by decide) rfl e201 dX10_spread_19 ?_
    refine pm_imul hC dX10_spread_22 ?_
    have b204 : 0 ≤ (y197 * y200) ∧ (y197 * y200) ≤ 81 := pm_mulb (by omega) (by omega) (show y197 ≤ 9 by omega) (show y200 ≤ 9 by omega) (by decide)
    generalize (y197 * y200) = y203 at b204 ⊢
    refine pm_iadd hC dX10_spread_23 ?_
    refine pm_mmax hC 4011 4012 1018 4013 ⟨by decide, by decide⟩ ⟨by omega, by omega⟩ (by decide) wL_X10_69 wS_mmax wI_math wC_mmax (Nat.le_of_ble_eq_true rfl) dX10_spread_24 (fun y205 b206 => ?_)
    refine pm_putf hC 73 fl_X10_24 rfl rfl rfl (by decide) rfl trivial dX10_spread_27 ?_
    refine pm_aload_n hC 0 (by decide) dX10_spread_30 rfl ?_
    refine pm_iconst (v := 1) hC dX10_spread_31 ?_
    refine pm_aload_n hC 0 (by decide) dX10_spread_32 rfl ?_
    refine pm_getf (v := 51) hC 73 fl_X10_59 rfl rfl (by decide) rfl e1 dX10_spread_33 ?_
    obtain ⟨y207, e208⟩ : ∃ y, V0 51 6 = y := ⟨_, rfl⟩
    have b209 := hV0.get 51 6 (lo := 0) (hi := 60) (by decide) (by decide) rfl
    rw [e208] at b209
    refine pm_getf (v := y207) hC 51 fl_X10_75 rfl rfl (by decide) rfl e208 dX10_spread_36 ?_
    refine pm_iload_n hC 2 dX10_spread_39 rfl ?_
    refine pm_iadd hC dX10_spread_40 ?_
    refine pm_aload_n hC 0 (by decide) dX10_spread_41 rfl ?_
    refine pm_getf (v := 51) hC 73 fl_X10_59 rfl rfl (by decide) rfl e1 dX10_spread_42 ?_
    obtain ⟨y210, e211⟩ : ∃ y, V0 51 7 = y := ⟨_, rfl⟩
    have b212 := hV0.get 51 7 (lo := 0) (hi := 9) (by decide) (by decide) rfl
    rw [e211] at b212
    refine pm_getf (v := y210) hC 51 fl_X10_76 rfl rfl (by decide) rfl e211 dX10_spread_45 ?_
    refine pm_aload_n hC 0 (by decide) dX10_spread_48 rfl ?_
    obtain ⟨y213, e214⟩ : ∃ y, V0 73 4 = y := ⟨_, rfl⟩
    have b215 := hV0.get 73 4 (lo := 0) (hi := 9) (by decide) (by decide) rfl
    rw [e214] at b215
    refine pm_getf (v := y213) hC 73 fl_X10_21 rfl rfl (by decide) rfl e214 dX10_spread_49 ?_
    refine pm_imul hC dX10_spread_52 ?_
    have b217 : 0 ≤ (y210 * y213) ∧ (y210 * y213) ≤ 81 := pm_mulb (by omega) (by omega) (show y210 ≤ 9 by omega) (show y213 ≤ 9 by omega) (by decide)
    generalize (y210 * y213) = y216 at b217 ⊢
    refine pm_iadd hC dX10_spread_53 ?_
    refine pm_mmax hC 4011 4012 1018 4013 ⟨by decide, by decide⟩ ⟨by omega, by omega⟩ (by decide) wL_X10_69 wS_mmax wI_math wC_mmax (Nat.le_of_ble_eq_true rfl) dX10_spread_54 (fun y218 b219 => ?_)
    refine pm_putf hC 73 fl_X10_27 rfl rfl rfl (by decide) rfl trivial dX10_spread_57 ?_
    refine pm_aload_n hC 0 (by decide) dX10_spread_60 rfl ?_
    refine pm_lconst (x := 0) hC dX10_spread_61 rfl ?_
    refine pm_putf hC 73 fl_X10_41 rfl rfl rfl (by decide) rfl trivial dX10_spread_62 ?_
    refine pm_aload_n hC 0 (by decide) dX10_spread_65 rfl ?_
    refine pm_lconst (x := 0) hC dX10_spread_66 rfl ?_
    refine pm_putf hC 73 fl_X10_44 rfl rfl rfl (by decide) rfl trivial dX10_spread_67 ?_
    refine pm_aload_n hC 0 (by decide) dX10_spread_70 rfl ?_
    refine pm_lconst (x := 0) hC dX10_spread_71 rfl ?_
    refine pm_putf hC 73 fl_X10_47 rfl rfl rfl (by decide) rfl trivial dX10_spread_72 ?_
    refine pm_iconst (v := 0) hC dX10_spread_75 ?_
    refine pm_istore_n (lv' := [(3, (0, 0)), (0, (3, 73)), (1, (0, a1)), (2, (0, a2))]) hC dX10_spread_76 (by decide) rfl ?_
    have hV222 := (((((hV0.put 73 5 (x := y205) (lo := 1) (hi := 171) rfl ⟨by omega, by omega⟩).put 73 6 (x := y218) (lo := 1) (hi := 171) rfl ⟨by omega, by omega⟩).put 73 10 (x := 0) (lo := (-9223372036854775808)) (hi := 9223372036854775807) rfl ⟨by decide, by decide⟩).put 73 11 (x := 0) (lo := (-9223372036854775808)) (hi := 9223372036854775807) rfl ⟨by decide, by decide⟩).put 73 12 (x := 0) (lo := (-9223372036854775808)) (hi := 9223372036854775807) rfl ⟨by decide, by decide⟩)
    have hF223 := ((((((pm_fr.rf (ws := [73, 74, 75]) (V := V0)).up 73 5 y205 rfl).up 73 6 y218 rfl).up 73 10 0 rfl).up 73 11 0 rfl).up 73 12 0 rfl)
    obtain ⟨V220, hv221⟩ : ∃ V, V = (pm_up (pm_up (pm_up (pm_up (pm_up V0 73 5 y205) 73 6 y218) 73 10 0) 73 11 0) 73 12 0) := ⟨_, rfl⟩
    rw [← hv221] at hV222 hF223
    rw [← hv221]
    have e224 : V220 73 0 = 51 := by rw [hv221]; exact e1
    have e225 : V220 51 4 = y194 := by rw [hv221]; exact e195
    have e226 : V220 51 5 = y197 := by rw [hv221]; exact e198
    have e227 : V220 73 3 = y200 := by rw [hv221]; exact e201
    have e228 : V220 51 6 = y207 := by rw [hv221]; exact e208
    have e229 : V220 51 7 = y210 := by rw [hv221]; exact e211
    have e230 : V220 73 4 = y213 := by rw [hv221]; exact e214
    have e231 : V220 73 5 = y205 := by rw [hv221]; rfl
    have e232 : V220 73 6 = y218 := by rw [hv221]; rfl
    have e233 : V220 73 10 = 0 := by rw [hv221]; rfl
    have e234 : V220 73 11 = 0 := by rw [hv221]; rfl
    have e235 : V220 73 12 = 0 := by rw [hv221]; rfl
    have L245 : ∀ (N247 : Nat) (x236 : Int) (V238 : pm_M), (0 ≤ x236 ∧ x236 ≤ 9) → pm_ok 0 90 V238 → pm_fr [73, 74, 75] V0 V238 → V238 51 4 = y194 → V238 51 5 = y197 → V238 51 6 = y207 → V238 51 7 = y210 → (Int.toNat (9 - x236)) = N247 → pm_J X 77 [(0, (3, 73)), (1, (0, a1)), (2, (0, a2)), (3, (0, x236))] [] 118 V238 := by
      intro N247
      induction N247 using Nat.strongRecOn with
      | _ N247 ih248 =>
      intro x236 V238 b237 hV239 hF240 e241 e242 e243 e244 hm246
      refine pm_iload_n hC 3 dX10_spread_77 rfl ?_
      refine pm_aload_n hC 0 (by decide) dX10_spread_78 rfl ?_
      rcases hV239.get2 73 0 (lo := 45) (hi := 51) (by decide) (by decide) rfl with e249 | e249
      · skip
        refine pm_getf (v := 45) hC 73 fl_X10_59 rfl rfl (by decide) rfl e249 dX10_spread_79 ?_
        obtain ⟨y250, e251⟩ : ∃ y, V238 45 0 = y := ⟨_, rfl⟩
        have b252 := hV239.get 45 0 (lo := 0) (hi := 9) (by decide) (by decide) rfl
        rw [e251] at b252
        refine pm_getf (v := y250) hC 45 fl_X10_79 rfl rfl (by decide) rfl e251 dX10_spread_82 ?_
        refine pm_icmp_ge (tgt := 238) hC ⟨by omega, by omega⟩ ⟨by omega, by omega⟩ dX10_spread_85 (by decide) (fun c253 => ?_) (fun c253 => ?_)
        · skip
          exact pm_vret hC hR ⟨rfl, hV239, hF240⟩ dX10_spread_238
        · skip
          refine pm_aload_n hC 0 (by decide) dX10_spread_88 rfl ?_
          refine pm_getf (v := 45) hC 73 fl_X10_59 rfl rfl (by decide) rfl e249 dX10_spread_89 ?_
          have e254 : V238 45 1 = 46 := hV239.one 45 1 (by decide) (by decide) rfl
          refine pm_getf (v := 46) hC 45 fl_X10_82 rfl rfl (by decide) rfl e254 dX10_spread_92 ?_
          refine pm_iload_n hC 3 dX10_spread_95 rfl ?_
          obtain ⟨y255, e256⟩ : ∃ y, V238 46 (x236 : Int).toNat = y := ⟨_, rfl⟩
          have b257 := hV239.get 46 (x236 : Int).toNat (lo := 0) (hi := 99) (by decide) (show _ < 9 by omega) rfl
          rw [e256] at b257
          refine pm_iaload (len := 9) (v := y255) hC 46 rfl rfl (by decide) ⟨by omega, by omega⟩ (by decide) e256 dX10_spread_96 ?_
          refine pm_aload_n hC 0 (by decide) dX10_spread_97 rfl ?_
          refine pm_getf (v := 45) hC 73 fl_X10_59 rfl rfl (by decide) rfl e249 dX10_spread_98 ?_
          refine pm_getf (v := 46) hC 45 fl_X10_82 rfl rfl (by decide) rfl e254 dX10_spread_101 ?_
          refine pm_aload_n hC 0 (by decide) dX10_spread_104 rfl ?_
          obtain ⟨y258, e259⟩ : ∃ y, V238 73 2 = y := ⟨_, rfl⟩
          have b260 := hV239.get 73 2 (lo := 0) (hi := 8) (by decide) (by decide) rfl
          rw [e259] at b260
          refine pm_getf (v := y258) hC 73 fl_X10_15 rfl rfl (by decide) rfl e259 dX10_spread_105 ?_
          obtain ⟨y261, e262⟩ : ∃ y, V238 46 (y258 : Int).toNat = y := ⟨_, rfl⟩
          have b263 := hV239.get 46 (y258 : Int).toNat (lo := 0) (hi := 99) (by decide) (show _ < 9 by omega) rfl
          rw [e262] at b263
          refine pm_iaload (len := 9) (v := y261) hC 46 rfl rfl (by decide) ⟨by omega, by omega⟩ (by decide) e262 dX10_spread_108 ?_
          refine pm_isub hC dX10_spread_109 ?_
          refine pm_mabs hC 4014 4015 1018 4016 ⟨by omega, by omega⟩ (by decide) wL_X10_86 wS_mabs wI_math wC_mabs (Nat.le_of_ble_eq_true rfl) dX10_spread_110 (fun y264 b265 => ?_)
          have b265 := And.intro b265.1.1 (And.intro b265.1.2 b265.2)
          refine pm_istore (lv' := [(4, (0, y264)), (0, (3, 73)), (1, (0, a1)), (2, (0, a2)), (3, (0, x236))]) hC dX10_spread_113 (by decide) rfl ?_
          refine pm_aload_n hC 1 (by decide) dX10_spread_115 rfl ?_
          refine pm_getf (v := 45) hC 73 fl_X10_59 rfl rfl (by decide) rfl e249 dX10_spread_116 ?_
          have e266 : V238 45 3 = 48 := hV239.one 45 3 (by decide) (by decide) rfl
          refine pm_getf (v := 48) hC 45 fl_X10_90 rfl rfl (by decide) rfl e266 dX10_spread_119 ?_
          refine pm_iload_n hC 4 dX10_spread_122 rfl ?_
          obtain ⟨y267, e268⟩ : ∃ y, V238 48 (x236 : Int).toNat = y := ⟨_, rfl⟩
          have b269 := hV239.get 48 (x236 : Int).toNat (lo := 0) (hi := 9) (by decide) (show _ < 9 by omega) rfl
          rw [e268] at b269
          refine pm_iaload (len := 9) (v := y267) hC 48 rfl rfl (by decide) ⟨by omega, by omega⟩ (by decide) e268 dX10_spread_123 ?_
          refine pm_iconst (v := 0) hC dX10_spread_124 ?_
          refine pm_aload_n hC 1 (by decide) dX10_spread_125 rfl ?_
          obtain ⟨y270, e271⟩ : ∃ y, V238 73 5 = y := ⟨_, rfl⟩
          have b272 := hV239.get 73 5 (lo := 1) (hi := 171) (by decide) (by decide) rfl
          rw [e271] at b272
          refine pm_getf (v := y270) hC 73 fl_X10_24 rfl rfl (by decide) rfl e271 dX10_spread_126 ?_
          refine pm_aload_n hC 1 (by decide) dX10_spread_129 rfl ?_
          refine pm_iload_n hC 4 dX10_spread_130 rfl ?_
          refine pm_aload_n hC 1 (by decide) dX10_spread_131 rfl ?_
          refine pm_getf (v := 45) hC 73 fl_X10_59 rfl rfl (by decide) rfl e249 dX10_spread_132 ?_
          refine pm_getf (v := 46) hC 45 fl_X10_82 rfl rfl (by decide) rfl e254 dX10_spread_135 ?_
          refine pm_aload_n hC 1 (by decide) dX10_spread_138 rfl ?_
          obtain ⟨y273, e274⟩ : ∃ y, V238 73 1 = y := ⟨_, rfl⟩
          have b275 := hV239.get 73 1 (lo := 0) (hi := 8) (by decide) (by decide) rfl
          rw [e274] at b275
          refine pm_getf (v := y273) hC 73 fl_X10_9 rfl rfl (by decide) rfl e274 dX10_spread_139 ?_
          obtain ⟨y276, e277⟩ : ∃ y, V238 46 (y273 : Int).toNat = y := ⟨_, rfl⟩
          have b278 := hV239.get 46 (y273 : Int).toNat (lo := 0) (hi := 99) (by decide) (show _ < 9 by omega) rfl
          rw [e277] at b278
          refine pm_iaload (len := 9) (v := y276) hC 46 rfl rfl (by decide) ⟨by omega, by omega⟩ (by decide) e277 dX10_spread_142 ?_
          refine pm_aload_n hC 1 (by decide) dX10_spread_143 rfl ?_
          refine pm_getf (v := 45) hC 73 fl_X10_59 rfl rfl (by decide) rfl e249 dX10_spread_144 ?_
          have e279 : V238 45 2 = 47 := hV239.one 45 2 (by decide) (by decide) rfl
          refine pm_getf (v := 47) hC 45 fl_X10_93 rfl rfl (by decide) rfl e279 dX10_spread_147 ?_
          refine pm_aload_n hC 1 (by decide) dX10_spread_150 rfl ?_
          refine pm_getf (v := y273) hC 73 fl_X10_9 rfl rfl (by decide) rfl e274 dX10_spread_151 ?_
          obtain ⟨y280, e281⟩ : ∃ y, V238 47 (y273 : Int).toNat = y := ⟨_, rfl⟩
          have b282 := hV239.get 47 (y273 : Int).toNat (lo := 0) (hi := 99) (by decide) (show _ < 9 by omega) rfl
          rw [e281] at b282
          refine pm_iaload (len := 9) (v := y280) hC 47 rfl rfl (by decide) ⟨by omega, by omega⟩ (by decide) e281 dX10_spread_154 ?_
          refine pm_callV (ci := 10) (as := [(0, x236), (0, y276), (0, y280)]) (st := [(0, y270), (0, 0), (0, y267)]) hC 73 (c_X10_farFrom_73 x236 y276 y280 ⟨by omega, by omega⟩ ⟨by omega, by omega⟩ ⟨by omega, by omega⟩) lm_X10_96 li_X10_farFrom (by decide) (by decide) rfl rfl rfl (by decide) rfl rfl (Nat.le_of_ble_eq_true rfl) ⟨Nat.le_refl _, Or.inl rfl⟩ dX10_spread_155 ⟨rfl, hV239⟩ (fun r283 V284 hp285 => ?_)
          obtain ⟨y286, rfl, b287, rfl⟩ := hp285
          change pm_J X 158 [(4, (0, y264)), (0, (3, 73)), (1, (0, a1)), (2, (0, a2)), (3, (0, x236))] [(0, y286), (0, y270), (0, 0), (0, y267)] 118 V238
          refine pm_isub hC dX10_spread_158 ?_
          refine pm_mmax hC 4011 4012 1018 4013 ⟨by decide, by decide⟩ ⟨by omega, by omega⟩ (by decide) wL_X10_69 wS_mmax wI_math wC_mmax (Nat.le_of_ble_eq_true rfl) dX10_spread_159 (fun y288 b289 => ?_)
          refine pm_imul hC dX10_spread_162 ?_
          have b291 : 0 ≤ (y267 * y288) ∧ (y267 * y288) ≤ 1539 := pm_mulb (by omega) (by omega) (show y267 ≤ 9 by omega) (show y288 ≤ 171 by omega) (by decide)
          generalize (y267 * y288) = y290 at b291 ⊢
          refine pm_i2l hC ⟨by omega, by omega⟩ dX10_spread_163 ?_
          refine pm_lstore (lv' := [(5, (1, y290)), (4, (0, y264)), (0, (3, 73)), (1, (0, a1)), (2, (0, a2)), (3, (0, x236))]) hC dX10_spread_164 (by decide) rfl ?_
          refine pm_iconst (v := 0) hC dX10_spread_166 ?_
          refine pm_aload_n hC 2 (by decide) dX10_spread_167 rfl ?_
          obtain ⟨y292, e293⟩ : ∃ y, V238 73 6 = y := ⟨_, rfl⟩
          have b294 := hV239.get 73 6 (lo := 1) (hi := 171) (by decide) (by decide) rfl
          rw [e293] at b294
          refine pm_getf (v := y292) hC 73 fl_X10_27 rfl rfl (by decide) rfl e293 dX10_spread_168 ?_
          refine pm_iload hC 1 dX10_spread_171 rfl ?_
          refine pm_isub hC dX10_spread_173 ?_
          refine pm_mmax hC 4011 4012 1018 4013 ⟨by decide, by decide⟩ ⟨by omega, by omega⟩ (by decide) wL_X10_69 wS_mmax wI_math wC_mmax (Nat.le_of_ble_eq_true rfl) dX10_spread_174 (fun y295 b296 => ?_)
          refine pm_i2l hC ⟨by omega, by omega⟩ dX10_spread_177 ?_
          refine pm_lstore (lv' := [(7, (1, y295)), (5, (1, y290)), (4, (0, y264)), (0, (3, 73)), (1, (0, a1)), (2, (0, a2)), (3, (0, x236))]) hC dX10_spread_178 (by decide) rfl ?_
          refine pm_aload_n hC 3 (by decide) dX10_spread_180 rfl ?_
          have e297 : V238 73 8 = 74 := hV239.one 73 8 (by decide) (by decide) rfl
          refine pm_getf (v := 74) hC 73 fl_X10_34 rfl rfl (by decide) rfl e297 dX10_spread_181 ?_
          refine pm_iload_n hC 6 dX10_spread_184 rfl ?_
          refine pm_lload hC 1 dX10_spread_185 rfl ?_
          refine pm_lastore (len := 9) hC 74 rfl rfl (by decide) ⟨by omega, by omega⟩ (by decide) dX10_spread_187 ?_
          refine pm_aload_n hC 3 (by decide) dX10_spread_188 rfl ?_
          have e298 : V238 73 9 = 75 := hV239.one 73 9 (by decide) (by decide) rfl
          refine pm_getf (v := 75) hC 73 fl_X10_38 rfl rfl (by decide) rfl e298 dX10_spread_189 ?_
          refine pm_iload_n hC 6 dX10_spread_192 rfl ?_
          refine pm_lload hC 0 dX10_spread_193 rfl ?_
          refine pm_lastore (len := 9) hC 75 rfl rfl (by decide) ⟨by omega, by omega⟩ (by decide) dX10_spread_195 ?_
          refine pm_aload_n hC 3 (by decide) dX10_spread_196 rfl ?_
          refine pm_dup hC rfl dX10_spread_197 ?_
          obtain ⟨y299, e300⟩ : ∃ y, V238 73 10 = y := ⟨_, rfl⟩
          have b301 := hV239.get 73 10 (lo := (-9223372036854775808)) (hi := 9223372036854775807) (by decide) (by decide) rfl
          rw [e300] at b301
          refine pm_getf (v := y299) hC 73 fl_X10_41 rfl rfl (by decide) rfl e300 dX10_spread_198 ?_
          refine pm_lload hC 1 dX10_spread_201 rfl ?_
          refine pm_ladd hC dX10_spread_203 ?_
          refine pm_someL hC (fun y302 b303 => ?_)
          have b303 := And.intro b303.1 b303.2
          refine pm_putf hC 73 fl_X10_41 rfl rfl rfl (by decide) rfl trivial dX10_spread_204 ?_
          refine pm_aload_n hC 3 (by decide) dX10_spread_207 rfl ?_
          refine pm_dup hC rfl dX10_spread_208 ?_
          obtain ⟨y304, e305⟩ : ∃ y, V238 73 11 = y := ⟨_, rfl⟩
          have b306 := hV239.get 73 11 (lo := (-9223372036854775808)) (hi := 9223372036854775807) (by decide) (by decide) rfl
          rw [e305] at b306
          refine pm_getf (v := y304) hC 73 fl_X10_44 rfl rfl (by decide) rfl e305 dX10_spread_209 ?_
          refine pm_lload hC 0 dX10_spread_212 rfl ?_
          refine pm_ladd hC dX10_spread_214 ?_
          refine pm_someL hC (fun y307 b308 => ?_)
          have b308 := And.intro b308.1 b308.2
          refine pm_putf hC 73 fl_X10_44 rfl rfl rfl (by decide) rfl trivial dX10_spread_215 ?_
          refine pm_aload_n hC 3 (by decide) dX10_spread_218 rfl ?_
          refine pm_dup hC rfl dX10_spread_219 ?_
          obtain ⟨y309, e310⟩ : ∃ y, V238 73 12 = y := ⟨_, rfl⟩
          have b311 := hV239.get 73 12 (lo := (-9223372036854775808)) (hi := 9223372036854775807) (by decide) (by decide) rfl
          rw [e310] at b311
          refine pm_getf (v := y309) hC 73 fl_X10_47 rfl rfl (by decide) rfl e310 dX10_spread_220 ?_
          refine pm_lload hC 1 dX10_spread_223 rfl ?_
          refine pm_lload hC 0 dX10_spread_225 rfl ?_
          refine pm_lmul hC dX10_spread_227 ?_
          have b313 : 0 ≤ (y290 * y295) ∧ (y290 * y295) ≤ 263169 := pm_mulb (by omega) (by omega) (show y290 ≤ 1539 by omega) (show y295 ≤ 171 by omega) (by decide)
          generalize (y290 * y295) = y312 at b313 ⊢
          refine pm_ladd hC dX10_spread_228 ?_
          refine pm_someL hC (fun y314 b315 => ?_)
          have b315 := And.intro b315.1 b315.2
          refine pm_putf hC 73 fl_X10_47 rfl rfl rfl (by decide) rfl trivial dX10_spread_229 ?_
          obtain ⟨x316, ei317⟩ : ∃ y : Int, x236 + 1 = y := ⟨_, rfl⟩
          refine pm_iinc (y := x316) (lv' := [(3, (0, x316)), (7, (1, y295)), (5, (1, y290)), (4, (0, y264)), (0, (3, 73)), (1, (0, a1)), (2, (0, a2))]) hC 6 dX10_spread_232 (by decide) rfl ei317 rfl ?_
          refine pm_goto (tgt := 77) hC dX10_spread_235 (by decide) ?_
          refine pm_lvsub [4, 5, 6, 0] (lv' := [(0, (3, 73)), (1, (0, a1)), (2, (0, a2)), (3, (0, x316))]) rfl ?_
          exact ih248 _ (by omega) x316 (pm_up (pm_up (pm_up (pm_up (pm_up V238 74 (x236 : Int).toNat y290) 75 (x236 : Int).toNat y295) 73 10 y302) 73 11 y307) 73 12 y314) ⟨by omega, by omega⟩ (((((hV239.put 74 (x236 : Int).toNat (x := y290) (lo := (-9223372036854775808)) (hi := 9223372036854775807) rfl ⟨by omega, by omega⟩).put 75 (x236 : Int).toNat (x := y295) (lo := (-9223372036854775808)) (hi := 9223372036854775807) rfl ⟨by omega, by omega⟩).put 73 10 (x := y302) (lo := (-9223372036854775808)) (hi := 9223372036854775807) rfl ⟨by omega, by omega⟩).put 73 11 (x := y307) (lo := (-9223372036854775808)) (hi := 9223372036854775807) rfl ⟨by omega, by omega⟩).put 73 12 (x := y314) (lo := (-9223372036854775808)) (hi := 9223372036854775807) rfl ⟨by omega, by omega⟩) (((((hF240.up 74 (x236 : Int).toNat y290 rfl).up 75 (x236 : Int).toNat y295 rfl).up 73 10 y302 rfl).up 73 11 y307 rfl).up 73 12 y314 rfl) e241 e242 e243 e244 rfl
      · skip
        refine pm_getf (v := 51) hC 73 fl_X10_59 rfl rfl (by decide) rfl e249 dX10_spread_79 ?_
        obtain ⟨y318, e319⟩ : ∃ y, V238 51 0 = y := ⟨_, rfl⟩
        have b320 := hV239.get 51 0 (lo := 0) (hi := 9) (by decide) (by decide) rfl
        rw [e319] at b320
        refine pm_getf (v := y318) hC 51 fl_X10_79 rfl rfl (by decide) rfl e319 dX10_spread_82 ?_
        refine pm_icmp_ge (tgt := 238) hC ⟨by omega, by omega⟩ ⟨by omega, by omega⟩ dX10_spread_85 (by decide) (fun c321 => ?_) (fun c321 => ?_)
        · skip
          exact pm_vret hC hR ⟨rfl, hV239, hF240⟩ dX10_spread_238
        · skip
          refine pm_aload_n hC 0 (by decide) dX10_spread_88 rfl ?_
          refine pm_getf (v := 51) hC 73 fl_X10_59 rfl rfl (by decide) rfl e249 dX10_spread_89 ?_
          have e322 : V238 51 1 = 52 := hV239.one 51 1 (by decide) (by decide) rfl
          refine pm_getf (v := 52) hC 51 fl_X10_82 rfl rfl (by decide) rfl e322 dX10_spread_92 ?_
          refine pm_iload_n hC 3 dX10_spread_95 rfl ?_
          obtain ⟨y323, e324⟩ : ∃ y, V238 52 (x236 : Int).toNat = y := ⟨_, rfl⟩
          have b325 := hV239.get 52 (x236 : Int).toNat (lo := 0) (hi := 99) (by decide) (show _ < 9 by omega) rfl
          rw [e324] at b325
          refine pm_iaload (len := 9) (v := y323) hC 52 rfl rfl (by decide) ⟨by omega, by omega⟩ (by decide) e324 dX10_spread_96 ?_
          refine pm_aload_n hC 0 (by decide) dX10_spread_97 rfl ?_
          refine pm_getf (v := 51) hC 73 fl_X10_59 rfl rfl (by decide) rfl e249 dX10_spread_98 ?_
          refine pm_getf (v := 52) hC 51 fl_X10_82 rfl rfl (by decide) rfl e322 dX10_spread_101 ?_
          refine pm_aload_n hC 0 (by decide) dX10_spread_104 rfl ?_
          obtain ⟨y326, e327⟩ : ∃ y, V238 73 2 = y := ⟨_, rfl⟩
          have b328 := hV239.get 73 2 (lo := 0) (hi := 8) (by decide) (by decide) rfl
          rw [e327] at b328
          refine pm_getf (v := y326) hC 73 fl_X10_15 rfl rfl (by decide) rfl e327 dX10_spread_105 ?_
          obtain ⟨y329, e330⟩ : ∃ y, V238 52 (y326 : Int).toNat = y := ⟨_, rfl⟩
          have b331 := hV239.get 52 (y326 : Int).toNat (lo := 0) (hi := 99) (by decide) (show _ < 9 by omega) rfl
          rw [e330] at b331
          refine pm_iaload (len := 9) (v := y329) hC 52 rfl rfl (by decide) ⟨by omega, by omega⟩ (by decide) e330 dX10_spread_108 ?_
          refine pm_isub hC dX10_spread_109 ?_
          refine pm_mabs hC 4014 4015 1018 4016 ⟨by omega, by omega⟩ (by decide) wL_X10_86 wS_mabs wI_math wC_mabs (Nat.le_of_ble_eq_true rfl) dX10_spread_110 (fun y332 b333 => ?_)
          have b333 := And.intro b333.1.1 (And.intro b333.1.2 b333.2)
          refine pm_istore (lv' := [(4, (0, y332)), (0, (3, 73)), (1, (0, a1)), (2, (0, a2)), (3, (0, x236))]) hC dX10_spread_113 (by decide) rfl ?_
          refine pm_aload_n hC 1 (by decide) dX10_spread_115 rfl ?_
          refine pm_getf (v := 51) hC 73 fl_X10_59 rfl rfl (by decide) rfl e249 dX10_spread_116 ?_
          have e334 : V238 51 3 = 54 := hV239.one 51 3 (by decide) (by decide) rfl
          refine pm_getf (v := 54) hC 51 fl_X10_90 rfl rfl (by decide) rfl e334 dX10_spread_119 ?_
          refine pm_iload_n hC 4 dX10_spread_122 rfl ?_
          obtain ⟨y335, e336⟩ : ∃ y, V238 54 (x236 : Int).toNat = y := ⟨_, rfl⟩
          have b337 := hV239.get 54 (x236 : Int).toNat (lo := 0) (hi := 9) (by decide) (show _ < 9 by omega) rfl
          rw [e336] at b337
          refine pm_iaload (len := 9) (v := y335) hC 54 rfl rfl (by decide) ⟨by omega, by omega⟩ (by decide) e336 dX10_spread_123 ?_
          refine pm_iconst (v := 0) hC dX10_spread_124 ?_
          refine pm_aload_n hC 1 (by decide) dX10_spread_125 rfl ?_
          obtain ⟨y338, e339⟩ : ∃ y, V238 73 5 = y := ⟨_, rfl⟩
          have b340 := hV239.get 73 5 (lo := 1) (hi := 171) (by decide) (by decide) rfl
          rw [e339] at b340
          refine pm_getf (v := y338) hC 73 fl_X10_24 rfl rfl (by decide) rfl e339 dX10_spread_126 ?_
          refine pm_aload_n hC 1 (by decide) dX10_spread_129 rfl ?_
          refine pm_iload_n hC 4 dX10_spread_130 rfl ?_
          refine pm_aload_n hC 1 (by decide) dX10_spread_131 rfl ?_
          refine pm_getf (v := 51) hC 73 fl_X10_59 rfl rfl (by decide) rfl e249 dX10_spread_132 ?_
          refine pm_getf (v := 52) hC 51 fl_X10_82 rfl rfl (by decide) rfl e322 dX10_spread_135 ?_
          refine pm_aload_n hC 1 (by decide) dX10_spread_138 rfl ?_
          obtain ⟨y341, e342⟩ : ∃ y, V238 73 1 = y := ⟨_, rfl⟩
          have b343 := hV239.get 73 1 (lo := 0) (hi := 8) (by decide) (by decide) rfl
          rw [e342] at b343
          refine pm_getf (v := y341) hC 73 fl_X10_9 rfl rfl (by decide) rfl e342 dX10_spread_139 ?_
          obtain ⟨y344, e345⟩ : ∃ y, V238 52 (y341 : Int).toNat = y := ⟨_, rfl⟩
          have b346 := hV239.get 52 (y341 : Int).toNat (lo := 0) (hi := 99) (by decide) (show _ < 9 by omega) rfl
          rw [e345] at b346
          refine pm_iaload (len := 9) (v := y344) hC 52 rfl rfl (by decide) ⟨by omega, by omega⟩ (by decide) e345 dX10_spread_142 ?_
          refine pm_aload_n hC 1 (by decide) dX10_spread_143 rfl ?_
          refine pm_getf (v := 51) hC 73 fl_X10_59 rfl rfl (by decide) rfl e249 dX10_spread_144 ?_
          have e347 : V238 51 2 = 53 := hV239.one 51 2 (by decide) (by decide) rfl
          refine pm_getf (v := 53) hC 51 fl_X10_93 rfl rfl (by decide) rfl e347 dX10_spread_147 ?_
          refine pm_aload_n hC 1 (by decide) dX10_spread_150 rfl ?_
          refine pm_getf (v := y341) hC 73 fl_X10_9 rfl rfl (by decide) rfl e342 dX10_spread_151 ?_
          obtain ⟨y348, e349⟩ : ∃ y, V238 53 (y341 : Int).toNat = y := ⟨_, rfl⟩
          have b350 := hV239.get 53 (y341 : Int).toNat (lo := 0) (hi := 99) (by decide) (show _ < 9 by omega) rfl
          rw [e349] at b350
          refine pm_iaload (len := 9) (v := y348) hC 53 rfl rfl (by decide) ⟨by omega, by omega⟩ (by decide) e349 dX10_spread_154 ?_
          refine pm_callV (ci := 10) (as := [(0, x236), (0, y344), (0, y348)]) (st := [(0, y338), (0, 0), (0, y335)]) hC 73 (c_X10_farFrom_73 x236 y344 y348 ⟨by omega, by omega⟩ ⟨by omega, by omega⟩ ⟨by omega, by omega⟩) lm_X10_96 li_X10_farFrom (by decide) (by decide) rfl rfl rfl (by decide) rfl rfl (Nat.le_of_ble_eq_true rfl) ⟨Nat.le_refl _, Or.inl rfl⟩ dX10_spread_155 ⟨rfl, hV239⟩ (fun r351 V352 hp353 => ?_)
          obtain ⟨y354, rfl, b355, rfl⟩ := hp353
          change pm_J X 158 [(4, (0, y332)), (0, (3, 73)), (1, (0, a1)), (2, (0, a2)), (3, (0, x236))] [(0, y354), (0, y338), (0, 0), (0, y335)] 118 V238
          refine pm_isub hC dX10_spread_158 ?_
          refine pm_mmax hC 4011 4012 1018 4013 ⟨by decide, by decide⟩ ⟨by omega, by omega⟩ (by decide) wL_X10_69 wS_mmax wI_math wC_mmax (Nat.le_of_ble_eq_true rfl) dX10_spread_159 (fun y356 b357 => ?_)
          refine pm_imul hC dX10_spread_162 ?_
          have b359 : 0 ≤ (y335 * y356) ∧ (y335 * y356) ≤ 1539 := pm_mulb (by omega) (by omega) (show y335 ≤ 9 by omega) (show y356 ≤ 171 by omega) (by decide)
          generalize (y335 * y356) = y358 at b359 ⊢
          refine pm_i2l hC ⟨by omega, by omega⟩ dX10_spread_163 ?_
          refine pm_lstore (lv' := [(5, (1, y358)), (4, (0, y332)), (0, (3, 73)), (1, (0, a1)), (2, (0, a2)), (3, (0, x236))]) hC dX10_spread_164 (by decide) rfl ?_
          refine pm_iconst (v := 0) hC dX10_spread_166 ?_
          refine pm_aload_n hC 2 (by decide) dX10_spread_167 rfl ?_
          obtain ⟨y360, e361⟩ : ∃ y, V238 73 6 = y := ⟨_, rfl⟩
          have b362 := hV239.get 73 6 (lo := 1) (hi := 171) (by decide) (by decide) rfl
          rw [e361] at b362
          refine pm_getf (v := y360) hC 73 fl_X10_27 rfl rfl (by decide) rfl e361 dX10_spread_168 ?_
          refine pm_iload hC 1 dX10_spread_171 rfl ?_
          refine pm_isub hC dX10_spread_173 ?_
          refine pm_mmax hC 4011 4012 1018 4013 ⟨by decide, by decide⟩ ⟨by omega, by omega⟩ (by decide) wL_X10_69 wS_mmax wI_math wC_mmax (Nat.le_of_ble_eq_true rfl) dX10_spread_174 (fun y363 b364 => ?_)
          refine pm_i2l hC ⟨by omega, by omega⟩ dX10_spread_177 ?_
          refine pm_lstore (lv' := [(7, (1, y363)), (5, (1, y358)), (4, (0, y332)), (0, (3, 73)), (1, (0, a1)), (2, (0, a2)), (3, (0, x236))]) hC dX10_spread_178 (by decide) rfl ?_
          refine pm_aload_n hC 3 (by decide) dX10_spread_180 rfl ?_
          have e365 : V238 73 8 = 74 := hV239.one 73 8 (by decide) (by decide) rfl
          refine pm_getf (v := 74) hC 73 fl_X10_34 rfl rfl (by decide) rfl e365 dX10_spread_181 ?_
          refine pm_iload_n hC 6 dX10_spread_184 rfl ?_
          refine pm_lload hC 1 dX10_spread_185 rfl ?_
          refine pm_lastore (len := 9) hC 74 rfl rfl (by decide) ⟨by omega, by omega⟩ (by decide) dX10_spread_187 ?_
          refine pm_aload_n hC 3 (by decide) dX10_spread_188 rfl ?_
          have e366 : V238 73 9 = 75 := hV239.one 73 9 (by decide) (by decide) rfl
          refine pm_getf (v := 75) hC 73 fl_X10_38 rfl rfl (by decide) rfl e366 dX10_spread_189 ?_
          refine pm_iload_n hC 6 dX10_spread_192 rfl ?_
          refine pm_lload hC 0 dX10_spread_193 rfl ?_
          refine pm_lastore (len := 9) hC 75 rfl rfl (by decide) ⟨by omega, by omega⟩ (by decide) dX10_spread_195 ?_
          refine pm_aload_n hC 3 (by decide) dX10_spread_196 rfl ?_
          refine pm_dup hC rfl dX10_spread_197 ?_
          obtain ⟨y367, e368⟩ : ∃ y, V238 73 10 = y := ⟨_, rfl⟩
          have b369 := hV239.get 73 10 (lo := (-9223372036854775808)) (hi := 9223372036854775807) (by decide) (by decide) rfl
          rw [e368] at b369
          refine pm_getf (v := y367) hC 73 fl_X10_41 rfl rfl (by decide) rfl e368 dX10_spread_198 ?_
          refine pm_lload hC 1 dX10_spread_201 rfl ?_
          refine pm_ladd hC dX10_spread_203 ?_
          refine pm_someL hC (fun y370 b371 => ?_)
          have b371 := And.intro b371.1 b371.2
          refine pm_putf hC 73 fl_X10_41 rfl rfl rfl (by decide) rfl trivial dX10_spread_204 ?_
          refine pm_aload_n hC 3 (by decide) dX10_spread_207 rfl ?_
          refine pm_dup hC rfl dX10_spread_208 ?_
          obtain ⟨y372, e373⟩ : ∃ y, V238 73 11 = y := ⟨_, rfl⟩
          have b374 := hV239.get 73 11 (lo := (-9223372036854775808)) (hi := 9223372036854775807) (by decide) (by decide) rfl
          rw [e373] at b374
          refine pm_getf (v := y372) hC 73 fl_X10_44 rfl rfl (by decide) rfl e373 dX10_spread_209 ?_
          refine pm_lload hC 0 dX10_spread_212 rfl ?_
          refine pm_ladd hC dX10_spread_214 ?_
          refine pm_someL hC (fun y375 b376 => ?_)
          have b376 := And.intro b376.1 b376.2
          refine pm_putf hC 73 fl_X10_44 rfl rfl rfl (by decide) rfl trivial dX10_spread_215 ?_
          refine pm_aload_n hC 3 (by decide) dX10_spread_218 rfl ?_
          refine pm_dup hC rfl dX10_spread_219 ?_
          obtain ⟨y377, e378⟩ : ∃ y, V238 73 12 = y := ⟨_, rfl⟩
          have b379 := hV239.get 73 12 (lo := (-9223372036854775808)) (hi := 9223372036854775807) (by decide) (by decide) rfl
          rw [e378] at b379
          refine pm_getf (v := y377) hC 73 fl_X10_47 rfl rfl (by decide) rfl e378 dX10_spread_220 ?_
          refine pm_lload hC 1 dX10_spread_223 rfl ?_
          refine pm_lload hC 0 dX10_spread_225 rfl ?_
          refine pm_lmul hC dX10_spread_227 ?_
          have b381 : 0 ≤ (y358 * y363) ∧ (y358 * y363) ≤ 263169 := pm_mulb (by omega) (by omega) (show y358 ≤ 1539 by omega) (show y363 ≤ 171 by omega) (by decide)
          generalize (y358 * y363) = y380 at b381 ⊢
          refine pm_ladd hC dX10_spread_228 ?_
          refine pm_someL hC (fun y382 b383 => ?_)
          have b383 := And.intro b383.1 b383.2
          refine pm_putf hC 73 fl_X10_47 rfl rfl rfl (by decide) rfl trivial dX10_spread_229 ?_
          obtain ⟨x384, ei385⟩ : ∃ y : Int, x236 + 1 = y := ⟨_, rfl⟩
          refine pm_iinc (y := x384) (lv' := [(3, (0, x384)), (7, (1, y363)), (5, (1, y358)), (4, (0, y332)), (0, (3, 73)), (1, (0, a1)), (2, (0, a2))]) hC 6 dX10_spread_232 (by decide) rfl ei385 rfl ?_
          refine pm_goto (tgt := 77) hC dX10_spread_235 (by decide) ?_
          refine pm_lvsub [4, 5, 6, 0] (lv' := [(0, (3, 73)), (1, (0, a1)), (2, (0, a2)), (3, (0, x384))]) rfl ?_
          exact ih248 _ (by omega) x384 (pm_up (pm_up (pm_up (pm_up (pm_up V238 74 (x236 : Int).toNat y358) 75 (x236 : Int).toNat y363) 73 10 y370) 73 11 y375) 73 12 y382) ⟨by omega, by omega⟩ (((((hV239.put 74 (x236 : Int).toNat (x := y358) (lo := (-9223372036854775808)) (hi := 9223372036854775807) rfl ⟨by omega, by omega⟩).put 75 (x236 : Int).toNat (x := y363) (lo := (-9223372036854775808)) (hi := 9223372036854775807) rfl ⟨by omega, by omega⟩).put 73 10 (x := y370) (lo := (-9223372036854775808)) (hi := 9223372036854775807) rfl ⟨by omega, by omega⟩).put 73 11 (x := y375) (lo := (-9223372036854775808)) (hi := 9223372036854775807) rfl ⟨by omega, by omega⟩).put 73 12 (x := y382) (lo := (-9223372036854775808)) (hi := 9223372036854775807) rfl ⟨by omega, by omega⟩) (((((hF240.up 74 (x236 : Int).toNat y358 rfl).up 75 (x236 : Int).toNat y363 rfl).up 73 10 y370 rfl).up 73 11 y375 rfl).up 73 12 y382 rfl) e241 e242 e243 e244 rfl
    refine pm_lvsub [1, 2, 3, 0] (lv' := [(0, (3, 73)), (1, (0, a1)), (2, (0, a2)), (3, (0, 0))]) rfl ?_
    exact L245 _ 0 V220 ⟨by decide, by decide⟩ hV222 hF223 e225 e226 e228 e229 rfl
set_option maxHeartbeats 4000000 in
set_option maxRecDepth 100000 in
theorem c_X10_place_73_51 (a1 a2 : Int) (h0 : 0 ≤ a1 ∧ a1 ≤ 99) (h1 : 0 ≤ a2 ∧ a2 ≤ 99) (h2 : a1 % 10 ≤ 8 ∧ a1 / 10 ≤ 8) : pm_K 1 yX10_place cX10_place 4 none (fun av V => av = [(3, 73), (3, 51), (0, a1), (0, a2)] ∧ pm_ok 0 90 V) (fun _ V r V' => r = none ∧ pm_ok 0 90 V' ∧ pm_fr [73] V V') := by
  refine pm_MT.of (by decide) ⟨Nat.le_refl _, by decide⟩ (fun av V h => by rw [h.1]; exact (by decide : pm_words [(3, 0), (3, 0), (0, 0), (0, 0)] ≤ 4)) ?_
  rintro X av V0 hC - hR ⟨rfl, hV0⟩
  change pm_J X 0 [(0, (3, 73)), (1, (3, 51)), (2, (0, a1)), (3, (0, a2))] [] 118 V0
  refine pm_aload_n hC 0 (by decide) dX10_place_0 rfl ?_
  refine pm_aload_n hC 1 (by decide) dX10_place_1 rfl ?_
  refine pm_putf hC 73 fl_X10_59 rfl rfl rfl (by decide) rfl trivial dX10_place_2 ?_
  refine pm_aload_n hC 0 (by decide) dX10_place_5 rfl ?_
  refine pm_iload_n hC 2 dX10_place_6 rfl ?_
  refine pm_bipush (v := 10) hC dX10_place_7 (by decide) ?_
  refine pm_idiv hC ⟨by omega, by omega, by omega⟩ ⟨by decide, by decide, by decide⟩ dX10_place_9 ?_
  refine pm_putf hC 73 fl_X10_9 rfl rfl rfl (by decide) rfl trivial dX10_place_10 ?_
  refine pm_aload_n hC 0 (by decide) dX10_place_13 rfl ?_
  refine pm_iload_n hC 2 dX10_place_14 rfl ?_
  refine pm_bipush (v := 10) hC dX10_place_15 (by decide) ?_
  refine pm_irem hC ⟨by omega, by omega, by omega⟩ ⟨by decide, by decide, by decide⟩ dX10_place_17 ?_
  refine pm_putf hC 73 fl_X10_15 rfl rfl rfl (by decide) rfl trivial dX10_place_18 ?_
  refine pm_aload_n hC 0 (by decide) dX10_place_21 rfl ?_
  refine pm_iload_n hC 3 dX10_place_22 rfl ?_
  refine pm_bipush (v := 10) hC dX10_place_23 (by decide) ?_
  refine pm_idiv hC ⟨by omega, by omega, by omega⟩ ⟨by decide, by decide, by decide⟩ dX10_place_25 ?_
  refine pm_putf hC 73 fl_X10_18 rfl rfl rfl (by decide) rfl trivial dX10_place_26 ?_
  refine pm_aload_n hC 0 (by decide) dX10_place_29 rfl ?_
  refine pm_iload_n hC 3 dX10_place_30 rfl ?_
  refine pm_bipush (v := 10) hC dX10_place_31 (by decide) ?_
  refine pm_irem hC ⟨by omega, by omega, by omega⟩ ⟨by decide, by decide, by decide⟩ dX10_place_33 ?_
  refine pm_putf hC 73 fl_X10_21 rfl rfl rfl (by decide) rfl trivial dX10_place_34 ?_
  exact pm_vret hC hR ⟨rfl, (((((hV0.put2 73 0 (x := 51) (lo := 45) (hi := 51) rfl ⟨by omega, by decide⟩).put 73 1 (x := (a1 / 10)) (lo := 0) (hi := 8) rfl ⟨by omega, by omega⟩).put 73 2 (x := (a1 % 10)) (lo := 0) (hi := 8) rfl ⟨by omega, by omega⟩).put 73 3 (x := (a2 / 10)) (lo := 0) (hi := 9) rfl ⟨by omega, by omega⟩).put 73 4 (x := (a2 % 10)) (lo := 0) (hi := 9) rfl ⟨by omega, by omega⟩), ((((((pm_fr.rf (ws := [73]) (V := V0)).up 73 0 51 rfl).up 73 1 (a1 / 10) rfl).up 73 2 (a1 % 10) rfl).up 73 3 (a2 / 10) rfl).up 73 4 (a2 % 10) rfl)⟩ dX10_place_37
set_option maxHeartbeats 4000000 in
set_option maxRecDepth 100000 in
theorem c_X11_poseAs_0 (a1 a2 a3 a4 : Int) (h0 : 0 ≤ a1 ∧ a1 ≤ 999) (h1 : 0 ≤ a2 ∧ a2 ≤ 99) (h2 : (-30) ≤ a3 ∧ a3 ≤ 30) (h3 : (-30) ≤ a4 ∧ a4 ≤ 30) (h4 : a1 % 10 ≤ 8 ∧ a1 / 10 % 10 ≤ 8) : pm_K 3 yX11_poseAs cX11_poseAs 5 none (fun av V => av = [(3, 0), (0, a1), (0, a2), (0, a3), (0, a4)] ∧ pm_ok 0 90 V) (fun _ V r V' => r = none ∧ pm_ok 0 90 V' ∧ pm_fr [73, 74, 75] V V') := by
  refine pm_MT.of (by decide) ⟨Nat.le_refl _, by decide⟩ (fun av V h => by rw [h.1]; exact (by decide : pm_words [(3, 0), (0, 0), (0, 0), (0, 0), (0, 0)] ≤ 5)) ?_
  rintro X av V0 hC - hR ⟨rfl, hV0⟩
  change pm_J X 0 [(0, (3, 0)), (1, (0, a1)), (2, (0, a2)), (3, (0, a3)), (4, (0, a4))] [] 118 V0
  refine pm_aload_n hC 0 (by decide) dX11_poseAs_0 rfl ?_
  have e1 : V0 0 5 = 73 := hV0.one 0 5 (by decide) (by decide) rfl
  refine pm_getf (v := 73) hC 0 fl_X11_75 rfl rfl (by decide) rfl e1 dX11_poseAs_1 ?_
  refine pm_aload_n hC 0 (by decide) dX11_poseAs_4 rfl ?_
  rcases hV0.get2 0 8 (lo := 45) (hi := 51) (by decide) (by decide) rfl with e2 | e2
  · skip
    refine pm_getf (v := 45) hC 0 fl_X11_35 rfl rfl (by decide) rfl e2 dX11_poseAs_5 ?_
    refine pm_iload_n hC 1 dX11_poseAs_8 rfl ?_
    refine pm_bipush (v := 100) hC dX11_poseAs_9 (by decide) ?_
    refine pm_irem hC ⟨by omega, by omega, by omega⟩ ⟨by decide, by decide, by decide⟩ dX11_poseAs_11 ?_
    refine pm_iload_n hC 2 dX11_poseAs_12 rfl ?_
    refine pm_callV (ci := 10) (as := [(3, 45), (0, (a1 % 100)), (0, a2)]) (st := []) hC 73 (c_X10_place_73_45 (a1 % 100) a2 ⟨by omega, by omega⟩ ⟨by omega, by omega⟩ (by omega)) lm_X11_344 li_X10_place (by decide) (by decide) rfl rfl rfl (by decide) rfl rfl (Nat.le_of_ble_eq_true rfl) ⟨Nat.le_refl _, Or.inl rfl⟩ dX11_poseAs_13 ⟨rfl, hV0⟩ (fun r3 V4 hp5 => ?_)
    obtain ⟨rfl, hV6, hF7⟩ := hp5
    change pm_J X 16 [(0, (3, 0)), (1, (0, a1)), (2, (0, a2)), (3, (0, a3)), (4, (0, a4))] [] 118 V4
    have hF8 := pm_fr.tr (pm_fr.rf (ws := [73, 74, 75]) (V := V0)) hF7 (by decide)
    have e9 : V4 0 5 = 73 := by rw [hF7 0 (by decide)]; exact e1
    have e10 : V4 0 8 = 45 := by rw [hF7 0 (by decide)]; exact e2
    refine pm_aload_n hC 0 (by decide) dX11_poseAs_16 rfl ?_
    refine pm_getf (v := 73) hC 0 fl_X11_75 rfl rfl (by decide) rfl e9 dX11_poseAs_17 ?_
    refine pm_iload_n hC 3 dX11_poseAs_20 rfl ?_
    refine pm_iload hC 4 dX11_poseAs_21 rfl ?_
    refine pm_callV (ci := 10) (as := [(0, a3), (0, a4)]) (st := []) hC 73 (c_X10_spread_73 a3 a4 ⟨by omega, by omega⟩ ⟨by omega, by omega⟩) lm_X11_348 li_X10_spread (by decide) (by decide) rfl rfl rfl (by decide) rfl rfl (Nat.le_of_ble_eq_true rfl) ⟨Nat.le_refl _, Or.inl rfl⟩ dX11_poseAs_23 ⟨rfl, hV6⟩ (fun r11 V12 hp13 => ?_)
    obtain ⟨rfl, hV14, hF15⟩ := hp13
    change pm_J X 26 [(0, (3, 0)), (1, (0, a1)), (2, (0, a2)), (3, (0, a3)), (4, (0, a4))] [] 118 V12
    have hF16 := pm_fr.tr hF8 hF15 (by decide)
    have e17 : V12 0 5 = 73 := by rw [hF15 0 (by decide)]; exact e9
    have e18 : V12 0 8 = 45 := by rw [hF15 0 (by decide)]; exact e10
    exact pm_vret hC hR ⟨rfl, hV14, hF16⟩ dX11_poseAs_26
  · skip
    refine pm_getf (v := 51) hC 0 fl_X11_35 rfl rfl (by decide) rfl e2 dX11_poseAs_5 ?_
    refine pm_iload_n hC 1 dX11_poseAs_8 rfl ?_
    refine pm_bipush (v := 100) hC dX11_poseAs_9 (by decide) ?_
    refine pm_irem hC ⟨by omega, by omega, by omega⟩ ⟨by decide, by decide, by decide⟩ dX11_poseAs_11 ?_
    refine pm_iload_n hC 2 dX11_poseAs_12 rfl ?_
    refine pm_callV (ci := 10) (as := [(3, 51), (0, (a1 % 100)), (0, a2)]) (st := []) hC 73 (c_X10_place_73_51 (a1 % 100) a2 ⟨by omega, by omega⟩ ⟨by omega, by omega⟩ (by omega)) lm_X11_344 li_X10_place (by decide) (by decide) rfl rfl rfl (by decide) rfl rfl (Nat.le_of_ble_eq_true rfl) ⟨Nat.le_refl _, Or.inl rfl⟩ dX11_poseAs_13 ⟨rfl, hV0⟩ (fun r19 V20 hp21 => ?_)
    obtain ⟨rfl, hV22, hF23⟩ := hp21
    change pm_J X 16 [(0, (3, 0)), (1, (0, a1)), (2, (0, a2)), (3, (0, a3)), (4, (0, a4))] [] 118 V20
    have hF24 := pm_fr.tr (pm_fr.rf (ws := [73, 74, 75]) (V := V0)) hF23 (by decide)
    have e25 : V20 0 5 = 73 := by rw [hF23 0 (by decide)]; exact e1
    have e26 : V20 0 8 = 51 := by rw [hF23 0 (by decide)]; exact e2
    refine pm_aload_n hC 0 (by decide) dX11_poseAs_16 rfl ?_
    refine pm_getf (v := 73) hC 0 fl_X11_75 rfl rfl (by decide) rfl e25 dX11_poseAs_17 ?_
    refine pm_iload_n hC 3 dX11_poseAs_20 rfl ?_
    refine pm_iload hC 4 dX11_poseAs_21 rfl ?_
    refine pm_callV (ci := 10) (as := [(0, a3), (0, a4)]) (st := []) hC 73 (c_X10_spread_73 a3 a4 ⟨by omega, by omega⟩ ⟨by omega, by omega⟩) lm_X11_348 li_X10_spread (by decide) (by decide) rfl rfl rfl (by decide) rfl rfl (Nat.le_of_ble_eq_true rfl) ⟨Nat.le_refl _, Or.inl rfl⟩ dX11_poseAs_23 ⟨rfl, hV22⟩ (fun r27 V28 hp29 => ?_)
    obtain ⟨rfl, hV30, hF31⟩ := hp29
    change pm_J X 26 [(0, (3, 0)), (1, (0, a1)), (2, (0, a2)), (3, (0, a3)), (4, (0, a4))] [] 118 V28
    have hF32 := pm_fr.tr hF24 hF31 (by decide)
    have e33 : V28 0 5 = 73 := by rw [hF31 0 (by decide)]; exact e25
    have e34 : V28 0 8 = 51 := by rw [hF31 0 (by decide)]; exact e26
    exact pm_vret hC hR ⟨rfl, hV30, hF32⟩ dX11_poseAs_26
set_option maxHeartbeats 4000000 in
set_option maxRecDepth 100000 in
theorem c_X10_trustAt_73 (a1 a2 : Int) (h0 : (-2147483648) ≤ a1 ∧ a1 ≤ 2147483647) (h1 : (-99) ≤ a2 ∧ a2 ≤ 99) : pm_K 1 yX10_trustAt cX10_trustAt 4 none (fun av V => av = [(3, 73), (0, a1), (0, a2)] ∧ pm_ok 0 90 V) (fun _ V r V' => r = none ∧ pm_ok 0 90 V' ∧ pm_fr [73] V V') := by
  refine pm_MT.of (by decide) ⟨Nat.le_refl _, by decide⟩ (fun av V h => by rw [h.1]; exact (by decide : pm_words [(3, 0), (0, 0), (0, 0)] ≤ 4)) ?_
  rintro X av V0 hC - hR ⟨rfl, hV0⟩
  change pm_J X 0 [(0, (3, 73)), (1, (0, a1)), (2, (0, a2))] [] 118 V0
  refine pm_iload_n hC 2 dX10_trustAt_0 rfl ?_
  refine pm_if_lt (tgt := 20) hC ⟨by omega, by omega⟩ dX10_trustAt_1 (by decide) (fun c1 => ?_) (fun c1 => ?_)
  · skip
    refine pm_iload_n hC 2 dX10_trustAt_20 rfl ?_
    refine pm_ineg hC dX10_trustAt_21 ?_
    refine pm_iconst (v := 1) hC dX10_trustAt_22 ?_
    refine pm_aload_n hC 0 (by decide) dX10_trustAt_23 rfl ?_
    rcases hV0.get2 73 0 (lo := 45) (hi := 51) (by decide) (by decide) rfl with e2 | e2
    · skip
      refine pm_getf (v := 45) hC 73 fl_X10_59 rfl rfl (by decide) rfl e2 dX10_trustAt_24 ?_
      obtain ⟨y3, e4⟩ : ∃ y, V0 45 9 = y := ⟨_, rfl⟩
      have b5 := hV0.get 45 9 (lo := 0) (hi := 99) (by decide) (by decide) rfl
      rw [e4] at b5
      refine pm_getf (v := y3) hC 45 fl_X10_100 rfl rfl (by decide) rfl e4 dX10_trustAt_27 ?_
      refine pm_iconst (v := 2) hC dX10_trustAt_30 ?_
      refine pm_idiv hC ⟨by omega, by omega, by omega⟩ ⟨by decide, by decide, by decide⟩ dX10_trustAt_31 ?_
      refine pm_mmax hC 4011 4012 1018 4013 ⟨by decide, by decide⟩ ⟨by omega, by omega⟩ (by decide) wL_X10_69 wS_mmax wI_math wC_mmax (Nat.le_of_ble_eq_true rfl) dX10_trustAt_32 (fun y6 b7 => ?_)
      refine pm_idiv hC ⟨by omega, by omega, by omega⟩ ⟨by omega, by omega, by omega⟩ dX10_trustAt_35 ?_
      have b9 := pm_divb (x := (-a2)) (y := y6) (by omega) (by omega)
      generalize ((-a2) / y6) = y8 at b9 ⊢
      refine pm_istore_n (lv' := [(3, (0, y8)), (0, (3, 73)), (1, (0, a1)), (2, (0, a2))]) hC dX10_trustAt_36 (by decide) rfl ?_
      refine pm_aload_n hC 1 (by decide) dX10_trustAt_37 rfl ?_
      refine pm_iconst (v := 0) hC dX10_trustAt_38 ?_
      refine pm_iload_n hC 2 dX10_trustAt_39 rfl ?_
      refine pm_iload_n hC 0 dX10_trustAt_40 rfl ?_
      refine pm_isub hC dX10_trustAt_41 ?_
      refine pm_some hC (fun y10 b11 => ?_)
      have b11 := And.intro b11.1 b11.2
      refine pm_mmax hC 4011 4012 1018 4013 ⟨by decide, by decide⟩ ⟨by omega, by omega⟩ (by decide) wL_X10_69 wS_mmax wI_math wC_mmax (Nat.le_of_ble_eq_true rfl) dX10_trustAt_42 (fun y12 b13 => ?_)
      refine pm_i2l hC ⟨by omega, by omega⟩ dX10_trustAt_45 ?_
      refine pm_putf hC 73 fl_X10_30 rfl rfl rfl (by decide) rfl trivial dX10_trustAt_46 ?_
      exact pm_vret hC hR ⟨rfl, (hV0.put 73 7 (x := y12) (lo := (-9223372036854775808)) (hi := 9223372036854775807) rfl ⟨by omega, by omega⟩), ((pm_fr.rf (ws := [73]) (V := V0)).up 73 7 y12 rfl)⟩ dX10_trustAt_49
    · skip
      refine pm_getf (v := 51) hC 73 fl_X10_59 rfl rfl (by decide) rfl e2 dX10_trustAt_24 ?_
      obtain ⟨y14, e15⟩ : ∃ y, V0 51 9 = y := ⟨_, rfl⟩
      have b16 := hV0.get 51 9 (lo := 0) (hi := 99) (by decide) (by decide) rfl
      rw [e15] at b16
      refine pm_getf (v := y14) hC 51 fl_X10_100 rfl rfl (by decide) rfl e15 dX10_trustAt_27 ?_
      refine pm_iconst (v := 2) hC dX10_trustAt_30 ?_
      refine pm_idiv hC ⟨by omega, by omega, by omega⟩ ⟨by decide, by decide, by decide⟩ dX10_trustAt_31 ?_
      refine pm_mmax hC 4011 4012 1018 4013 ⟨by decide, by decide⟩ ⟨by omega, by omega⟩ (by decide) wL_X10_69 wS_mmax wI_math wC_mmax (Nat.le_of_ble_eq_true rfl) dX10_trustAt_32 (fun y17 b18 => ?_)
      refine pm_idiv hC ⟨by omega, by omega, by omega⟩ ⟨by omega, by omega, by omega⟩ dX10_trustAt_35 ?_
      have b20 := pm_divb (x := (-a2)) (y := y17) (by omega) (by omega)
      generalize ((-a2) / y17) = y19 at b20 ⊢
      refine pm_istore_n (lv' := [(3, (0, y19)), (0, (3, 73)), (1, (0, a1)), (2, (0, a2))]) hC dX10_trustAt_36 (by decide) rfl ?_
      refine pm_aload_n hC 1 (by decide) dX10_trustAt_37 rfl ?_
      refine pm_iconst (v := 0) hC dX10_trustAt_38 ?_
      refine pm_iload_n hC 2 dX10_trustAt_39 rfl ?_
      refine pm_iload_n hC 0 dX10_trustAt_40 rfl ?_
      refine pm_isub hC dX10_trustAt_41 ?_
      refine pm_some hC (fun y21 b22 => ?_)
      have b22 := And.intro b22.1 b22.2
      refine pm_mmax hC 4011 4012 1018 4013 ⟨by decide, by decide⟩ ⟨by omega, by omega⟩ (by decide) wL_X10_69 wS_mmax wI_math wC_mmax (Nat.le_of_ble_eq_true rfl) dX10_trustAt_42 (fun y23 b24 => ?_)
      refine pm_i2l hC ⟨by omega, by omega⟩ dX10_trustAt_45 ?_
      refine pm_putf hC 73 fl_X10_30 rfl rfl rfl (by decide) rfl trivial dX10_trustAt_46 ?_
      exact pm_vret hC hR ⟨rfl, (hV0.put 73 7 (x := y23) (lo := (-9223372036854775808)) (hi := 9223372036854775807) rfl ⟨by omega, by omega⟩), ((pm_fr.rf (ws := [73]) (V := V0)).up 73 7 y23 rfl)⟩ dX10_trustAt_49
  · skip
    refine pm_iload_n hC 2 dX10_trustAt_4 rfl ?_
    refine pm_iconst (v := 1) hC dX10_trustAt_5 ?_
    refine pm_aload_n hC 0 (by decide) dX10_trustAt_6 rfl ?_
    rcases hV0.get2 73 0 (lo := 45) (hi := 51) (by decide) (by decide) rfl with e25 | e25
    · skip
      refine pm_getf (v := 45) hC 73 fl_X10_59 rfl rfl (by decide) rfl e25 dX10_trustAt_7 ?_
      obtain ⟨y26, e27⟩ : ∃ y, V0 45 9 = y := ⟨_, rfl⟩
      have b28 := hV0.get 45 9 (lo := 0) (hi := 99) (by decide) (by decide) rfl
      rw [e27] at b28
      refine pm_getf (v := y26) hC 45 fl_X10_100 rfl rfl (by decide) rfl e27 dX10_trustAt_10 ?_
      refine pm_mmax hC 4011 4012 1018 4013 ⟨by decide, by decide⟩ ⟨by omega, by omega⟩ (by decide) wL_X10_69 wS_mmax wI_math wC_mmax (Nat.le_of_ble_eq_true rfl) dX10_trustAt_13 (fun y29 b30 => ?_)
      refine pm_idiv hC ⟨by omega, by omega, by omega⟩ ⟨by omega, by omega, by omega⟩ dX10_trustAt_16 ?_
      have b32 := pm_divb (x := a2) (y := y29) (by omega) (by omega)
      generalize (a2 / y29) = y31 at b32 ⊢
      refine pm_goto (tgt := 36) hC dX10_trustAt_17 (by decide) ?_
      refine pm_istore_n (lv' := [(3, (0, y31)), (0, (3, 73)), (1, (0, a1)), (2, (0, a2))]) hC dX10_trustAt_36 (by decide) rfl ?_
      refine pm_aload_n hC 1 (by decide) dX10_trustAt_37 rfl ?_
      refine pm_iconst (v := 0) hC dX10_trustAt_38 ?_
      refine pm_iload_n hC 2 dX10_trustAt_39 rfl ?_
      refine pm_iload_n hC 0 dX10_trustAt_40 rfl ?_
      refine pm_isub hC dX10_trustAt_41 ?_
      refine pm_some hC (fun y33 b34 => ?_)
      have b34 := And.intro b34.1 b34.2
      refine pm_mmax hC 4011 4012 1018 4013 ⟨by decide, by decide⟩ ⟨by omega, by omega⟩ (by decide) wL_X10_69 wS_mmax wI_math wC_mmax (Nat.le_of_ble_eq_true rfl) dX10_trustAt_42 (fun y35 b36 => ?_)
      refine pm_i2l hC ⟨by omega, by omega⟩ dX10_trustAt_45 ?_
      refine pm_putf hC 73 fl_X10_30 rfl rfl rfl (by decide) rfl trivial dX10_trustAt_46 ?_
      exact pm_vret hC hR ⟨rfl, (hV0.put 73 7 (x := y35) (lo := (-9223372036854775808)) (hi := 9223372036854775807) rfl ⟨by omega, by omega⟩), ((pm_fr.rf (ws := [73]) (V := V0)).up 73 7 y35 rfl)⟩ dX10_trustAt_49
    · skip
      refine pm_getf (v := 51) hC 73 fl_X10_59 rfl rfl (by decide) rfl e25 dX10_trustAt_7 ?_
      obtain ⟨y37, e38⟩ : ∃ y, V0 51 9 = y := ⟨_, rfl⟩
      have b39 := hV0.get 51 9 (lo := 0) (hi := 99) (by decide) (by decide) rfl
      rw [e38] at b39
      refine pm_getf (v := y37) hC 51 fl_X10_100 rfl rfl (by decide) rfl e38 dX10_trustAt_10 ?_
      refine pm_mmax hC 4011 4012 1018 4013 ⟨by decide, by decide⟩ ⟨by omega, by omega⟩ (by decide) wL_X10_69 wS_mmax wI_math wC_mmax (Nat.le_of_ble_eq_true rfl) dX10_trustAt_13 (fun y40 b41 => ?_)
      refine pm_idiv hC ⟨by omega, by omega, by omega⟩ ⟨by omega, by omega, by omega⟩ dX10_trustAt_16 ?_
      have b43 := pm_divb (x := a2) (y := y40) (by omega) (by omega)
      generalize (a2 / y40) = y42 at b43 ⊢
      refine pm_goto (tgt := 36) hC dX10_trustAt_17 (by decide) ?_
      refine pm_istore_n (lv' := [(3, (0, y42)), (0, (3, 73)), (1, (0, a1)), (2, (0, a2))]) hC dX10_trustAt_36 (by decide) rfl ?_
      refine pm_aload_n hC 1 (by decide) dX10_trustAt_37 rfl ?_
      refine pm_iconst (v := 0) hC dX10_trustAt_38 ?_
      refine pm_iload_n hC 2 dX10_trustAt_39 rfl ?_
      refine pm_iload_n hC 0 dX10_trustAt_40 rfl ?_
      refine pm_isub hC dX10_trustAt_41 ?_
      refine pm_some hC (fun y44 b45 => ?_)
      have b45 := And.intro b45.1 b45.2
      refine pm_mmax hC 4011 4012 1018 4013 ⟨by decide, by decide⟩ ⟨by omega, by omega⟩ (by decide) wL_X10_69 wS_mmax wI_math wC_mmax (Nat.le_of_ble_eq_true rfl) dX10_trustAt_42 (fun y46 b47 => ?_)
      refine pm_i2l hC ⟨by omega, by omega⟩ dX10_trustAt_45 ?_
      refine pm_putf hC 73 fl_X10_30 rfl rfl rfl (by decide) rfl trivial dX10_trustAt_46 ?_
      exact pm_vret hC hR ⟨rfl, (hV0.put 73 7 (x := y46) (lo := (-9223372036854775808)) (hi := 9223372036854775807) rfl ⟨by omega, by omega⟩), ((pm_fr.rf (ws := [73]) (V := V0)).up 73 7 y46 rfl)⟩ dX10_trustAt_49
set_option maxHeartbeats 4000000 in
set_option maxRecDepth 100000 in
theorem c_X11_pose_0 (a1 a2 a3 : Int) (h0 : 0 ≤ a1 ∧ a1 ≤ 999) (h1 : 0 ≤ a2 ∧ a2 ≤ 99) (h2 : (-99) ≤ a3 ∧ a3 ≤ 99) (h3 : a1 % 10 ≤ 8 ∧ a1 / 10 % 10 ≤ 8) : pm_K 4 yX11_pose cX11_pose 5 none (fun av V => av = [(3, 0), (0, a1), (0, a2), (0, a3)] ∧ pm_ok 0 90 V) (fun _ V r V' => r = none ∧ pm_ok 0 90 V' ∧ pm_fr [73, 74, 75] V V') := by
  refine pm_MT.of (by decide) ⟨Nat.le_refl _, by decide⟩ (fun av V h => by rw [h.1]; exact (by decide : pm_words [(3, 0), (0, 0), (0, 0), (0, 0)] ≤ 5)) ?_
  rintro X av V0 hC - hR ⟨rfl, hV0⟩
  change pm_J X 0 [(0, (3, 0)), (1, (0, a1)), (2, (0, a2)), (3, (0, a3))] [] 118 V0
  refine pm_iload_n hC 1 dX11_pose_0 rfl ?_
  refine pm_bipush (v := 100) hC dX11_pose_1 (by decide) ?_
  refine pm_idiv hC ⟨by omega, by omega, by omega⟩ ⟨by decide, by decide, by decide⟩ dX11_pose_3 ?_
  refine pm_istore (lv' := [(4, (0, (a1 / 100))), (0, (3, 0)), (1, (0, a1)), (2, (0, a2)), (3, (0, a3))]) hC dX11_pose_4 (by decide) rfl ?_
  refine pm_aload_n hC 1 (by decide) dX11_pose_6 rfl ?_
  refine pm_iload_n hC 2 dX11_pose_7 rfl ?_
  refine pm_iload_n hC 3 dX11_pose_8 rfl ?_
  refine pm_aload_n hC 1 (by decide) dX11_pose_9 rfl ?_
  have e1 : V0 0 3 = 4 := hV0.one 0 3 (by decide) (by decide) rfl
  refine pm_getf (v := 4) hC 0 fl_X11_24 rfl rfl (by decide) rfl e1 dX11_pose_10 ?_
  have e2 : V0 4 2 = 5 := hV0.one 4 2 (by decide) (by decide) rfl
  refine pm_getf (v := 5) hC 4 fl_X11_186 rfl rfl (by decide) rfl e2 dX11_pose_13 ?_
  refine pm_iload hC 0 dX11_pose_16 rfl ?_
  obtain ⟨y3, e4⟩ : ∃ y, V0 5 ((a1 / 100) : Int).toNat = y := ⟨_, rfl⟩
  have b5 := hV0.get 5 ((a1 / 100) : Int).toNat (lo := (-30)) (hi := 30) (by decide) (show _ < 10 by omega) rfl
  rw [e4] at b5
  refine pm_iaload (len := 10) (v := y3) hC 5 rfl rfl (by decide) ⟨by omega, by omega⟩ (by decide) e4 dX11_pose_18 ?_
  refine pm_aload_n hC 1 (by decide) dX11_pose_19 rfl ?_
  refine pm_getf (v := 4) hC 0 fl_X11_24 rfl rfl (by decide) rfl e1 dX11_pose_20 ?_
  have e6 : V0 4 3 = 6 := hV0.one 4 3 (by decide) (by decide) rfl
  refine pm_getf (v := 6) hC 4 fl_X11_189 rfl rfl (by decide) rfl e6 dX11_pose_23 ?_
  refine pm_iload hC 0 dX11_pose_26 rfl ?_
  obtain ⟨y7, e8⟩ : ∃ y, V0 6 ((a1 / 100) : Int).toNat = y := ⟨_, rfl⟩
  have b9 := hV0.get 6 ((a1 / 100) : Int).toNat (lo := (-30)) (hi := 30) (by decide) (show _ < 10 by omega) rfl
  rw [e8] at b9
  refine pm_iaload (len := 10) (v := y7) hC 6 rfl rfl (by decide) ⟨by omega, by omega⟩ (by decide) e8 dX11_pose_28 ?_
  refine pm_callV (ci := 11) (as := [(0, a1), (0, a2), (0, y3), (0, y7)]) (st := []) hC 0 (c_X11_poseAs_0 a1 a2 y3 y7 ⟨by omega, by omega⟩ ⟨by omega, by omega⟩ ⟨by omega, by omega⟩ ⟨by omega, by omega⟩ (by omega)) lm_X11_341 li_X11_poseAs (by decide) (by decide) rfl rfl rfl (by decide) rfl rfl (Nat.le_of_ble_eq_true rfl) ⟨Nat.le_refl _, Or.inl rfl⟩ dX11_pose_29 ⟨rfl, hV0⟩ (fun r10 V11 hp12 => ?_)
  obtain ⟨rfl, hV13, hF14⟩ := hp12
  change pm_J X 32 [(4, (0, (a1 / 100))), (0, (3, 0)), (1, (0, a1)), (2, (0, a2)), (3, (0, a3))] [] 118 V11
  have hF15 := pm_fr.tr (pm_fr.rf (ws := [73, 74, 75]) (V := V0)) hF14 (by decide)
  have e16 : V11 0 3 = 4 := by rw [hF14 0 (by decide)]; exact e1
  have e17 : V11 4 2 = 5 := by rw [hF14 4 (by decide)]; exact e2
  have e18 : V11 4 3 = 6 := by rw [hF14 4 (by decide)]; exact e6
  refine pm_aload_n hC 1 (by decide) dX11_pose_32 rfl ?_
  have e19 : V11 0 5 = 73 := hV13.one 0 5 (by decide) (by decide) rfl
  refine pm_getf (v := 73) hC 0 fl_X11_75 rfl rfl (by decide) rfl e19 dX11_pose_33 ?_
  refine pm_aload_n hC 1 (by decide) dX11_pose_36 rfl ?_
  refine pm_getf (v := 4) hC 0 fl_X11_24 rfl rfl (by decide) rfl e16 dX11_pose_37 ?_
  have e20 : V11 4 4 = 7 := hV13.one 4 4 (by decide) (by decide) rfl
  refine pm_getf (v := 7) hC 4 fl_X11_192 rfl rfl (by decide) rfl e20 dX11_pose_40 ?_
  refine pm_iload hC 0 dX11_pose_43 rfl ?_
  obtain ⟨y21, e22⟩ : ∃ y, V11 7 ((a1 / 100) : Int).toNat = y := ⟨_, rfl⟩
  have b23 := hV13.get 7 ((a1 / 100) : Int).toNat (lo := 0) (hi := 16) (by decide) (show _ < 10 by omega) rfl
  rw [e22] at b23
  refine pm_iaload (len := 10) (v := y21) hC 7 rfl rfl (by decide) ⟨by omega, by omega⟩ (by decide) e22 dX11_pose_45 ?_
  refine pm_iload_n hC 4 dX11_pose_46 rfl ?_
  refine pm_callV (ci := 10) (as := [(0, y21), (0, a3)]) (st := []) hC 73 (c_X10_trustAt_73 y21 a3 ⟨by omega, by omega⟩ ⟨by omega, by omega⟩) lm_X11_306 li_X10_trustAt (by decide) (by decide) rfl rfl rfl (by decide) rfl rfl (Nat.le_of_ble_eq_true rfl) ⟨Nat.le_refl _, Or.inl rfl⟩ dX11_pose_47 ⟨rfl, hV13⟩ (fun r24 V25 hp26 => ?_)
  obtain ⟨rfl, hV27, hF28⟩ := hp26
  change pm_J X 50 [(4, (0, (a1 / 100))), (0, (3, 0)), (1, (0, a1)), (2, (0, a2)), (3, (0, a3))] [] 118 V25
  have hF29 := pm_fr.tr hF15 hF28 (by decide)
  have e30 : V25 0 3 = 4 := by rw [hF28 0 (by decide)]; exact e16
  have e31 : V25 4 2 = 5 := by rw [hF28 4 (by decide)]; exact e17
  have e32 : V25 4 3 = 6 := by rw [hF28 4 (by decide)]; exact e18
  have e33 : V25 0 5 = 73 := by rw [hF28 0 (by decide)]; exact e19
  have e34 : V25 4 4 = 7 := by rw [hF28 4 (by decide)]; exact e20
  exact pm_vret hC hR ⟨rfl, hV27, hF29⟩ dX11_pose_50
set_option maxHeartbeats 4000000 in
set_option maxRecDepth 100000 in
theorem c_X10_weighVoice_73  : pm_K 1 yX10_weighVoice cX10_weighVoice 2 none (fun av V => av = [(3, 73)] ∧ pm_ok 0 90 V) (fun _ V r V' => r = none ∧ pm_ok 0 90 V' ∧ pm_fr [73, 76, 77] V V') := by
  refine pm_MT.of (by decide) ⟨Nat.le_refl _, by decide⟩ (fun av V h => by rw [h.1]; exact (by decide : pm_words [(3, 0)] ≤ 2)) ?_
  rintro X av V0 hC - hR ⟨rfl, hV0⟩
  change pm_J X 0 [(0, (3, 73))] [] 118 V0
  refine pm_iconst (v := 0) hC dX10_weighVoice_0 ?_
  refine pm_istore_n (lv' := [(1, (0, 0)), (0, (3, 73))]) hC dX10_weighVoice_1 (by decide) rfl ?_
  have L6 : ∀ (N8 : Nat) (x1 : Int) (V3 : pm_M), (0 ≤ x1 ∧ x1 ≤ 9) → pm_ok 0 90 V3 → pm_fr [73, 76, 77] V0 V3 → (Int.toNat (9 - x1)) = N8 → pm_J X 2 [(0, (3, 73)), (1, (0, x1))] [] 118 V3 := by
    intro N8
    induction N8 using Nat.strongRecOn with
    | _ N8 ih9 =>
    intro x1 V3 b2 hV4 hF5 hm7
    refine pm_iload_n hC 1 dX10_weighVoice_2 rfl ?_
    refine pm_aload_n hC 0 (by decide) dX10_weighVoice_3 rfl ?_
    rcases hV4.get2 73 0 (lo := 45) (hi := 51) (by decide) (by decide) rfl with e10 | e10
    · skip
      refine pm_getf (v := 45) hC 73 fl_X10_59 rfl rfl (by decide) rfl e10 dX10_weighVoice_4 ?_
      obtain ⟨y11, e12⟩ : ∃ y, V3 45 0 = y := ⟨_, rfl⟩
      have b13 := hV4.get 45 0 (lo := 0) (hi := 9) (by decide) (by decide) rfl
      rw [e12] at b13
      refine pm_getf (v := y11) hC 45 fl_X10_79 rfl rfl (by decide) rfl e12 dX10_weighVoice_7 ?_
      refine pm_icmp_ge (tgt := 31) hC ⟨by omega, by omega⟩ ⟨by omega, by omega⟩ dX10_weighVoice_10 (by decide) (fun c14 => ?_) (fun c14 => ?_)
      · skip
        refine pm_aload_n hC 0 (by decide) dX10_weighVoice_31 rfl ?_
        refine pm_aload_n hC 0 (by decide) dX10_weighVoice_32 rfl ?_
        obtain ⟨y15, e16⟩ : ∃ y, V3 73 10 = y := ⟨_, rfl⟩
        have b17 := hV4.get 73 10 (lo := (-9223372036854775808)) (hi := 9223372036854775807) (by decide) (by decide) rfl
        rw [e16] at b17
        refine pm_getf (v := y15) hC 73 fl_X10_41 rfl rfl (by decide) rfl e16 dX10_weighVoice_33 ?_
        refine pm_putf hC 73 fl_X10_53 rfl rfl rfl (by decide) rfl trivial dX10_weighVoice_36 ?_
        exact pm_vret hC hR ⟨rfl, (hV4.put 73 14 (x := y15) (lo := (-9223372036854775808)) (hi := 9223372036854775807) rfl ⟨by omega, by omega⟩), (hF5.up 73 14 y15 rfl)⟩ dX10_weighVoice_39
      · skip
        refine pm_aload_n hC 0 (by decide) dX10_weighVoice_13 rfl ?_
        rcases hV4.get2 73 13 (lo := 76) (hi := 77) (by decide) (by decide) rfl with e18 | e18
        · skip
          refine pm_getf (v := 76) hC 73 fl_X10_50 rfl rfl (by decide) rfl e18 dX10_weighVoice_14 ?_
          refine pm_iload_n hC 1 dX10_weighVoice_17 rfl ?_
          refine pm_aload_n hC 0 (by decide) dX10_weighVoice_18 rfl ?_
          have e19 : V3 73 8 = 74 := hV4.one 73 8 (by decide) (by decide) rfl
          refine pm_getf (v := 74) hC 73 fl_X10_34 rfl rfl (by decide) rfl e19 dX10_weighVoice_19 ?_
          refine pm_iload_n hC 1 dX10_weighVoice_22 rfl ?_
          obtain ⟨y20, e21⟩ : ∃ y, V3 74 (x1 : Int).toNat = y := ⟨_, rfl⟩
          have b22 := hV4.get 74 (x1 : Int).toNat (lo := (-9223372036854775808)) (hi := 9223372036854775807) (by decide) (show _ < 9 by omega) rfl
          rw [e21] at b22
          refine pm_laload (len := 9) (v := y20) hC 74 rfl rfl (by decide) ⟨by omega, by omega⟩ (by decide) e21 dX10_weighVoice_23 ?_
          refine pm_lastore (len := 9) hC 76 rfl rfl (by decide) ⟨by omega, by omega⟩ (by decide) dX10_weighVoice_24 ?_
          obtain ⟨x23, ei24⟩ : ∃ y : Int, x1 + 1 = y := ⟨_, rfl⟩
          refine pm_iinc (y := x23) (lv' := [(1, (0, x23)), (0, (3, 73))]) hC 1 dX10_weighVoice_25 (by decide) rfl ei24 rfl ?_
          refine pm_goto (tgt := 2) hC dX10_weighVoice_28 (by decide) ?_
          refine pm_lvsub [1, 0] (lv' := [(0, (3, 73)), (1, (0, x23))]) rfl ?_
          exact ih9 _ (by omega) x23 (pm_up V3 76 (x1 : Int).toNat y20) ⟨by omega, by omega⟩ (hV4.put 76 (x1 : Int).toNat (x := y20) (lo := (-9223372036854775808)) (hi := 9223372036854775807) rfl ⟨by omega, by omega⟩) (hF5.up 76 (x1 : Int).toNat y20 rfl) rfl
        · skip
          refine pm_getf (v := 77) hC 73 fl_X10_50 rfl rfl (by decide) rfl e18 dX10_weighVoice_14 ?_
          refine pm_iload_n hC 1 dX10_weighVoice_17 rfl ?_
          refine pm_aload_n hC 0 (by decide) dX10_weighVoice_18 rfl ?_
          have e25 : V3 73 8 = 74 := hV4.one 73 8 (by decide) (by decide) rfl
          refine pm_getf (v := 74) hC 73 fl_X10_34 rfl rfl (by decide) rfl e25 dX10_weighVoice_19 ?_
          refine pm_iload_n hC 1 dX10_weighVoice_22 rfl ?_
          obtain ⟨y26, e27⟩ : ∃ y, V3 74 (x1 : Int).toNat = y := ⟨_, rfl⟩
          have b28 := hV4.get 74 (x1 : Int).toNat (lo := (-9223372036854775808)) (hi := 9223372036854775807) (by decide) (show _ < 9 by omega) rfl
          rw [e27] at b28
          refine pm_laload (len := 9) (v := y26) hC 74 rfl rfl (by decide) ⟨by omega, by omega⟩ (by decide) e27 dX10_weighVoice_23 ?_
          refine pm_lastore (len := 9) hC 77 rfl rfl (by decide) ⟨by omega, by omega⟩ (by decide) dX10_weighVoice_24 ?_
          obtain ⟨x29, ei30⟩ : ∃ y : Int, x1 + 1 = y := ⟨_, rfl⟩
          refine pm_iinc (y := x29) (lv' := [(1, (0, x29)), (0, (3, 73))]) hC 1 dX10_weighVoice_25 (by decide) rfl ei30 rfl ?_
          refine pm_goto (tgt := 2) hC dX10_weighVoice_28 (by decide) ?_
          refine pm_lvsub [1, 0] (lv' := [(0, (3, 73)), (1, (0, x29))]) rfl ?_
          exact ih9 _ (by omega) x29 (pm_up V3 77 (x1 : Int).toNat y26) ⟨by omega, by omega⟩ (hV4.put 77 (x1 : Int).toNat (x := y26) (lo := (-9223372036854775808)) (hi := 9223372036854775807) rfl ⟨by omega, by omega⟩) (hF5.up 77 (x1 : Int).toNat y26 rfl) rfl
    · skip
      refine pm_getf (v := 51) hC 73 fl_X10_59 rfl rfl (by decide) rfl e10 dX10_weighVoice_4 ?_
      obtain ⟨y31, e32⟩ : ∃ y, V3 51 0 = y := ⟨_, rfl⟩
      have b33 := hV4.get 51 0 (lo := 0) (hi := 9) (by decide) (by decide) rfl
      rw [e32] at b33
      refine pm_getf (v := y31) hC 51 fl_X10_79 rfl rfl (by decide) rfl e32 dX10_weighVoice_7 ?_
      refine pm_icmp_ge (tgt := 31) hC ⟨by omega, by omega⟩ ⟨by omega, by omega⟩ dX10_weighVoice_10 (by decide) (fun c34 => ?_) (fun c34 => ?_)
      · skip
        refine pm_aload_n hC 0 (by decide) dX10_weighVoice_31 rfl ?_
        refine pm_aload_n hC 0 (by decide) dX10_weighVoice_32 rfl ?_
        obtain ⟨y35, e36⟩ : ∃ y, V3 73 10 = y := ⟨_, rfl⟩
        have b37 := hV4.get 73 10 (lo := (-9223372036854775808)) (hi := 9223372036854775807) (by decide) (by decide) rfl
        rw [e36] at b37
        refine pm_getf (v := y35) hC 73 fl_X10_41 rfl rfl (by decide) rfl e36 dX10_weighVoice_33 ?_
        refine pm_putf hC 73 fl_X10_53 rfl rfl rfl (by decide) rfl trivial dX10_weighVoice_36 ?_
        exact pm_vret hC hR ⟨rfl, (hV4.put 73 14 (x := y35) (lo := (-9223372036854775808)) (hi := 9223372036854775807) rfl ⟨by omega, by omega⟩), (hF5.up 73 14 y35 rfl)⟩ dX10_weighVoice_39
      · skip
        refine pm_aload_n hC 0 (by decide) dX10_weighVoice_13 rfl ?_
        rcases hV4.get2 73 13 (lo := 76) (hi := 77) (by decide) (by decide) rfl with e38 | e38
        · skip
          refine pm_getf (v := 76) hC 73 fl_X10_50 rfl rfl (by decide) rfl e38 dX10_weighVoice_14 ?_
          refine pm_iload_n hC 1 dX10_weighVoice_17 rfl ?_
          refine pm_aload_n hC 0 (by decide) dX10_weighVoice_18 rfl ?_
          have e39 : V3 73 8 = 74 := hV4.one 73 8 (by decide) (by decide) rfl
          refine pm_getf (v := 74) hC 73 fl_X10_34 rfl rfl (by decide) rfl e39 dX10_weighVoice_19 ?_
          refine pm_iload_n hC 1 dX10_weighVoice_22 rfl ?_
          obtain ⟨y40, e41⟩ : ∃ y, V3 74 (x1 : Int).toNat = y := ⟨_, rfl⟩
          have b42 := hV4.get 74 (x1 : Int).toNat (lo := (-9223372036854775808)) (hi := 9223372036854775807) (by decide) (show _ < 9 by omega) rfl
          rw [e41] at b42
          refine pm_laload (len := 9) (v := y40) hC 74 rfl rfl (by decide) ⟨by omega, by omega⟩ (by decide) e41 dX10_weighVoice_23 ?_
          refine pm_lastore (len := 9) hC 76 rfl rfl (by decide) ⟨by omega, by omega⟩ (by decide) dX10_weighVoice_24 ?_
          obtain ⟨x43, ei44⟩ : ∃ y : Int, x1 + 1 = y := ⟨_, rfl⟩
          refine pm_iinc (y := x43) (lv' := [(1, (0, x43)), (0, (3, 73))]) hC 1 dX10_weighVoice_25 (by decide) rfl ei44 rfl ?_
          refine pm_goto (tgt := 2) hC dX10_weighVoice_28 (by decide) ?_
          refine pm_lvsub [1, 0] (lv' := [(0, (3, 73)), (1, (0, x43))]) rfl ?_
          exact ih9 _ (by omega) x43 (pm_up V3 76 (x1 : Int).toNat y40) ⟨by omega, by omega⟩ (hV4.put 76 (x1 : Int).toNat (x := y40) (lo := (-9223372036854775808)) (hi := 9223372036854775807) rfl ⟨by omega, by omega⟩) (hF5.up 76 (x1 : Int).toNat y40 rfl) rfl
        · skip
          refine pm_getf (v := 77) hC 73 fl_X10_50 rfl rfl (by decide) rfl e38 dX10_weighVoice_14 ?_
          refine pm_iload_n hC 1 dX10_weighVoice_17 rfl ?_
          refine pm_aload_n hC 0 (by decide) dX10_weighVoice_18 rfl ?_
          have e45 : V3 73 8 = 74 := hV4.one 73 8 (by decide) (by decide) rfl
          refine pm_getf (v := 74) hC 73 fl_X10_34 rfl rfl (by decide) rfl e45 dX10_weighVoice_19 ?_
          refine pm_iload_n hC 1 dX10_weighVoice_22 rfl ?_
          obtain ⟨y46, e47⟩ : ∃ y, V3 74 (x1 : Int).toNat = y := ⟨_, rfl⟩
          have b48 := hV4.get 74 (x1 : Int).toNat (lo := (-9223372036854775808)) (hi := 9223372036854775807) (by decide) (show _ < 9 by omega) rfl
          rw [e47] at b48
          refine pm_laload (len := 9) (v := y46) hC 74 rfl rfl (by decide) ⟨by omega, by omega⟩ (by decide) e47 dX10_weighVoice_23 ?_
          refine pm_lastore (len := 9) hC 77 rfl rfl (by decide) ⟨by omega, by omega⟩ (by decide) dX10_weighVoice_24 ?_
          obtain ⟨x49, ei50⟩ : ∃ y : Int, x1 + 1 = y := ⟨_, rfl⟩
          refine pm_iinc (y := x49) (lv' := [(1, (0, x49)), (0, (3, 73))]) hC 1 dX10_weighVoice_25 (by decide) rfl ei50 rfl ?_
          refine pm_goto (tgt := 2) hC dX10_weighVoice_28 (by decide) ?_
          refine pm_lvsub [1, 0] (lv' := [(0, (3, 73)), (1, (0, x49))]) rfl ?_
          exact ih9 _ (by omega) x49 (pm_up V3 77 (x1 : Int).toNat y46) ⟨by omega, by omega⟩ (hV4.put 77 (x1 : Int).toNat (x := y46) (lo := (-9223372036854775808)) (hi := 9223372036854775807) rfl ⟨by omega, by omega⟩) (hF5.up 77 (x1 : Int).toNat y46 rfl) rfl
  refine pm_lvsub [1, 0] (lv' := [(0, (3, 73)), (1, (0, 0))]) rfl ?_
  exact L6 _ 0 V0 ⟨by decide, by decide⟩ hV0 (pm_fr.rf (ws := [73, 76, 77]) (V := V0)) rfl
set_option maxHeartbeats 4000000 in
set_option maxRecDepth 100000 in
theorem c_X10_weighFace_73  : pm_K 1 yX10_weighFace cX10_weighFace 2 none (fun av V => av = [(3, 73)] ∧ pm_ok 0 90 V) (fun _ V r V' => r = none ∧ pm_ok 0 90 V' ∧ pm_fr [73, 76, 77] V V') := by
  refine pm_MT.of (by decide) ⟨Nat.le_refl _, by decide⟩ (fun av V h => by rw [h.1]; exact (by decide : pm_words [(3, 0)] ≤ 2)) ?_
  rintro X av V0 hC - hR ⟨rfl, hV0⟩
  change pm_J X 0 [(0, (3, 73))] [] 118 V0
  refine pm_aload_n hC 0 (by decide) dX10_weighFace_0 rfl ?_
  refine pm_lconst (x := 0) hC dX10_weighFace_1 rfl ?_
  refine pm_putf hC 73 fl_X10_53 rfl rfl rfl (by decide) rfl trivial dX10_weighFace_2 ?_
  refine pm_iconst (v := 0) hC dX10_weighFace_5 ?_
  refine pm_istore_n (lv' := [(1, (0, 0)), (0, (3, 73))]) hC dX10_weighFace_6 (by decide) rfl ?_
  have hV3 := (hV0.put 73 14 (x := 0) (lo := (-9223372036854775808)) (hi := 9223372036854775807) rfl ⟨by decide, by decide⟩)
  have hF4 := ((pm_fr.rf (ws := [73, 76, 77]) (V := V0)).up 73 14 0 rfl)
  obtain ⟨V1, hv2⟩ : ∃ V, V = (pm_up V0 73 14 0) := ⟨_, rfl⟩
  rw [← hv2] at hV3 hF4
  rw [← hv2]
  have e5 : V1 73 14 = 0 := by rw [hv2]; rfl
  have L11 : ∀ (N13 : Nat) (x6 : Int) (V8 : pm_M), (0 ≤ x6 ∧ x6 ≤ 9) → pm_ok 0 90 V8 → pm_fr [73, 76, 77] V0 V8 → (Int.toNat (9 - x6)) = N13 → pm_J X 7 [(0, (3, 73)), (1, (0, x6))] [] 118 V8 := by
    intro N13
    induction N13 using Nat.strongRecOn with
    | _ N13 ih14 =>
    intro x6 V8 b7 hV9 hF10 hm12
    refine pm_iload_n hC 1 dX10_weighFace_7 rfl ?_
    refine pm_aload_n hC 0 (by decide) dX10_weighFace_8 rfl ?_
    rcases hV9.get2 73 0 (lo := 45) (hi := 51) (by decide) (by decide) rfl with e15 | e15
    · skip
      refine pm_getf (v := 45) hC 73 fl_X10_59 rfl rfl (by decide) rfl e15 dX10_weighFace_9 ?_
      obtain ⟨y16, e17⟩ : ∃ y, V8 45 0 = y := ⟨_, rfl⟩
      have b18 := hV9.get 45 0 (lo := 0) (hi := 9) (by decide) (by decide) rfl
      rw [e17] at b18
      refine pm_getf (v := y16) hC 45 fl_X10_79 rfl rfl (by decide) rfl e17 dX10_weighFace_12 ?_
      refine pm_icmp_ge (tgt := 62) hC ⟨by omega, by omega⟩ ⟨by omega, by omega⟩ dX10_weighFace_15 (by decide) (fun c19 => ?_) (fun c19 => ?_)
      · skip
        exact pm_vret hC hR ⟨rfl, hV9, hF10⟩ dX10_weighFace_62
      · skip
        refine pm_aload_n hC 0 (by decide) dX10_weighFace_18 rfl ?_
        rcases hV9.get2 73 13 (lo := 76) (hi := 77) (by decide) (by decide) rfl with e20 | e20
        · skip
          refine pm_getf (v := 76) hC 73 fl_X10_50 rfl rfl (by decide) rfl e20 dX10_weighFace_19 ?_
          refine pm_iload_n hC 1 dX10_weighFace_22 rfl ?_
          refine pm_aload_n hC 0 (by decide) dX10_weighFace_23 rfl ?_
          refine pm_getf (v := 45) hC 73 fl_X10_59 rfl rfl (by decide) rfl e15 dX10_weighFace_24 ?_
          have e21 : V8 45 3 = 48 := hV9.one 45 3 (by decide) (by decide) rfl
          refine pm_getf (v := 48) hC 45 fl_X10_90 rfl rfl (by decide) rfl e21 dX10_weighFace_27 ?_
          refine pm_iload_n hC 1 dX10_weighFace_30 rfl ?_
          obtain ⟨y22, e23⟩ : ∃ y, V8 48 (x6 : Int).toNat = y := ⟨_, rfl⟩
          have b24 := hV9.get 48 (x6 : Int).toNat (lo := 0) (hi := 9) (by decide) (show _ < 9 by omega) rfl
          rw [e23] at b24
          refine pm_iaload (len := 9) (v := y22) hC 48 rfl rfl (by decide) ⟨by omega, by omega⟩ (by decide) e23 dX10_weighFace_31 ?_
          refine pm_i2l hC ⟨by omega, by omega⟩ dX10_weighFace_32 ?_
          refine pm_aload_n hC 0 (by decide) dX10_weighFace_33 rfl ?_
          have e25 : V8 73 9 = 75 := hV9.one 73 9 (by decide) (by decide) rfl
          refine pm_getf (v := 75) hC 73 fl_X10_38 rfl rfl (by decide) rfl e25 dX10_weighFace_34 ?_
          refine pm_iload_n hC 1 dX10_weighFace_37 rfl ?_
          obtain ⟨y26, e27⟩ : ∃ y, V8 75 (x6 : Int).toNat = y := ⟨_, rfl⟩
          have b28 := hV9.get 75 (x6 : Int).toNat (lo := (-9223372036854775808)) (hi := 9223372036854775807) (by decide) (show _ < 9 by omega) rfl
          rw [e27] at b28
          refine pm_laload (len := 9) (v := y26) hC 75 rfl rfl (by decide) ⟨by omega, by omega⟩ (by decide) e27 dX10_weighFace_38 ?_
          refine pm_lmul hC dX10_weighFace_39 ?_
          refine pm_someL hC (fun y29 b30 => ?_)
          have b30 := And.intro b30.1 b30.2
          refine pm_lastore (len := 9) hC 76 rfl rfl (by decide) ⟨by omega, by omega⟩ (by decide) dX10_weighFace_40 ?_
          refine pm_aload_n hC 0 (by decide) dX10_weighFace_41 rfl ?_
          refine pm_dup hC rfl dX10_weighFace_42 ?_
          obtain ⟨y31, e32⟩ : ∃ y, V8 73 14 = y := ⟨_, rfl⟩
          have b33 := hV9.get 73 14 (lo := (-9223372036854775808)) (hi := 9223372036854775807) (by decide) (by decide) rfl
          rw [e32] at b33
          refine pm_getf (v := y31) hC 73 fl_X10_53 rfl rfl (by decide) rfl e32 dX10_weighFace_43 ?_
          refine pm_aload_n hC 0 (by decide) dX10_weighFace_46 rfl ?_
          refine pm_getf (v := 76) hC 73 fl_X10_50 rfl rfl (by decide) rfl e20 dX10_weighFace_47 ?_
          refine pm_iload_n hC 1 dX10_weighFace_50 rfl ?_
          have hV36 := (hV9.put 76 (x6 : Int).toNat (x := y29) (lo := (-9223372036854775808)) (hi := 9223372036854775807) rfl ⟨by omega, by omega⟩)
          have hF37 := (hF10.up 76 (x6 : Int).toNat y29 rfl)
          obtain ⟨V34, hv35⟩ : ∃ V, V = (pm_up V8 76 (x6 : Int).toNat y29) := ⟨_, rfl⟩
          rw [← hv35] at hV36 hF37
          rw [← hv35]
          have e38 : V34 73 0 = 45 := by rw [hv35]; exact e15
          have e39 : V34 45 0 = y16 := by rw [hv35]; exact e17
          have e40 : V34 73 13 = 76 := by rw [hv35]; exact e20
          have e41 : V34 45 3 = 48 := by rw [hv35]; exact e21
          have e42 : V34 73 9 = 75 := by rw [hv35]; exact e25
          have e43 : V34 73 14 = y31 := by rw [hv35]; exact e32
          obtain ⟨y44, e45⟩ : ∃ y, V34 76 (x6 : Int).toNat = y := ⟨_, rfl⟩
          have b46 := hV36.get 76 (x6 : Int).toNat (lo := (-9223372036854775808)) (hi := 9223372036854775807) (by decide) (show _ < 9 by omega) rfl
          rw [e45] at b46
          refine pm_laload (len := 9) (v := y44) hC 76 rfl rfl (by decide) ⟨by omega, by omega⟩ (by decide) e45 dX10_weighFace_51 ?_
          refine pm_ladd hC dX10_weighFace_52 ?_
          refine pm_someL hC (fun y47 b48 => ?_)
          have b48 := And.intro b48.1 b48.2
          refine pm_putf hC 73 fl_X10_53 rfl rfl rfl (by decide) rfl trivial dX10_weighFace_53 ?_
          obtain ⟨x49, ei50⟩ : ∃ y : Int, x6 + 1 = y := ⟨_, rfl⟩
          refine pm_iinc (y := x49) (lv' := [(1, (0, x49)), (0, (3, 73))]) hC 1 dX10_weighFace_56 (by decide) rfl ei50 rfl ?_
          refine pm_goto (tgt := 7) hC dX10_weighFace_59 (by decide) ?_
          refine pm_lvsub [1, 0] (lv' := [(0, (3, 73)), (1, (0, x49))]) rfl ?_
          exact ih14 _ (by omega) x49 (pm_up V34 73 14 y47) ⟨by omega, by omega⟩ (hV36.put 73 14 (x := y47) (lo := (-9223372036854775808)) (hi := 9223372036854775807) rfl ⟨by omega, by omega⟩) (hF37.up 73 14 y47 rfl) rfl
        · skip
          refine pm_getf (v := 77) hC 73 fl_X10_50 rfl rfl (by decide) rfl e20 dX10_weighFace_19 ?_
          refine pm_iload_n hC 1 dX10_weighFace_22 rfl ?_
          refine pm_aload_n hC 0 (by decide) dX10_weighFace_23 rfl ?_
          refine pm_getf (v := 45) hC 73 fl_X10_59 rfl rfl (by decide) rfl e15 dX10_weighFace_24 ?_
          have e51 : V8 45 3 = 48 := hV9.one 45 3 (by decide) (by decide) rfl
          refine pm_getf (v := 48) hC 45 fl_X10_90 rfl rfl (by decide) rfl e51 dX10_weighFace_27 ?_
          refine pm_iload_n hC 1 dX10_weighFace_30 rfl ?_
          obtain ⟨y52, e53⟩ : ∃ y, V8 48 (x6 : Int).toNat = y := ⟨_, rfl⟩
          have b54 := hV9.get 48 (x6 : Int).toNat (lo := 0) (hi := 9) (by decide) (show _ < 9 by omega) rfl
          rw [e53] at b54
          refine pm_iaload (len := 9) (v := y52) hC 48 rfl rfl (by decide) ⟨by omega, by omega⟩ (by decide) e53 dX10_weighFace_31 ?_
          refine pm_i2l hC ⟨by omega, by omega⟩ dX10_weighFace_32 ?_
          refine pm_aload_n hC 0 (by decide) dX10_weighFace_33 rfl ?_
          have e55 : V8 73 9 = 75 := hV9.one 73 9 (by decide) (by decide) rfl
          refine pm_getf (v := 75) hC 73 fl_X10_38 rfl rfl (by decide) rfl e55 dX10_weighFace_34 ?_
          refine pm_iload_n hC 1 dX10_weighFace_37 rfl ?_
          obtain ⟨y56, e57⟩ : ∃ y, V8 75 (x6 : Int).toNat = y := ⟨_, rfl⟩
          have b58 := hV9.get 75 (x6 : Int).toNat (lo := (-9223372036854775808)) (hi := 9223372036854775807) (by decide) (show _ < 9 by omega) rfl
          rw [e57] at b58
          refine pm_laload (len := 9) (v := y56) hC 75 rfl rfl (by decide) ⟨by omega, by omega⟩ (by decide) e57 dX10_weighFace_38 ?_
          refine pm_lmul hC dX10_weighFace_39 ?_
          refine pm_someL hC (fun y59 b60 => ?_)
          have b60 := And.intro b60.1 b60.2
          refine pm_lastore (len := 9) hC 77 rfl rfl (by decide) ⟨by omega, by omega⟩ (by decide) dX10_weighFace_40 ?_
          refine pm_aload_n hC 0 (by decide) dX10_weighFace_41 rfl ?_
          refine pm_dup hC rfl dX10_weighFace_42 ?_
          obtain ⟨y61, e62⟩ : ∃ y, V8 73 14 = y := ⟨_, rfl⟩
          have b63 := hV9.get 73 14 (lo := (-9223372036854775808)) (hi := 9223372036854775807) (by decide) (by decide) rfl
          rw [e62] at b63
          refine pm_getf (v := y61) hC 73 fl_X10_53 rfl rfl (by decide) rfl e62 dX10_weighFace_43 ?_
          refine pm_aload_n hC 0 (by decide) dX10_weighFace_46 rfl ?_
          refine pm_getf (v := 77) hC 73 fl_X10_50 rfl rfl (by decide) rfl e20 dX10_weighFace_47 ?_
          refine pm_iload_n hC 1 dX10_weighFace_50 rfl ?_
          have hV66 := (hV9.put 77 (x6 : Int).toNat (x := y59) (lo := (-9223372036854775808)) (hi := 9223372036854775807) rfl ⟨by omega, by omega⟩)
          have hF67 := (hF10.up 77 (x6 : Int).toNat y59 rfl)
          obtain ⟨V64, hv65⟩ : ∃ V, V = (pm_up V8 77 (x6 : Int).toNat y59) := ⟨_, rfl⟩
          rw [← hv65] at hV66 hF67
          rw [← hv65]
          have e68 : V64 73 0 = 45 := by rw [hv65]; exact e15
          have e69 : V64 45 0 = y16 := by rw [hv65]; exact e17
          have e70 : V64 73 13 = 77 := by rw [hv65]; exact e20
          have e71 : V64 45 3 = 48 := by rw [hv65]; exact e51
          have e72 : V64 73 9 = 75 := by rw [hv65]; exact e55
          have e73 : V64 73 14 = y61 := by rw [hv65]; exact e62
          obtain ⟨y74, e75⟩ : ∃ y, V64 77 (x6 : Int).toNat = y := ⟨_, rfl⟩
          have b76 := hV66.get 77 (x6 : Int).toNat (lo := (-9223372036854775808)) (hi := 9223372036854775807) (by decide) (show _ < 9 by omega) rfl
          rw [e75] at b76
          refine pm_laload (len := 9) (v := y74) hC 77 rfl rfl (by decide) ⟨by omega, by omega⟩ (by decide) e75 dX10_weighFace_51 ?_
          refine pm_ladd hC dX10_weighFace_52 ?_
          refine pm_someL hC (fun y77 b78 => ?_)
          have b78 := And.intro b78.1 b78.2
          refine pm_putf hC 73 fl_X10_53 rfl rfl rfl (by decide) rfl trivial dX10_weighFace_53 ?_
          obtain ⟨x79, ei80⟩ : ∃ y : Int, x6 + 1 = y := ⟨_, rfl⟩
          refine pm_iinc (y := x79) (lv' := [(1, (0, x79)), (0, (3, 73))]) hC 1 dX10_weighFace_56 (by decide) rfl ei80 rfl ?_
          refine pm_goto (tgt := 7) hC dX10_weighFace_59 (by decide) ?_
          refine pm_lvsub [1, 0] (lv' := [(0, (3, 73)), (1, (0, x79))]) rfl ?_
          exact ih14 _ (by omega) x79 (pm_up V64 73 14 y77) ⟨by omega, by omega⟩ (hV66.put 73 14 (x := y77) (lo := (-9223372036854775808)) (hi := 9223372036854775807) rfl ⟨by omega, by omega⟩) (hF67.up 73 14 y77 rfl) rfl
    · skip
      refine pm_getf (v := 51) hC 73 fl_X10_59 rfl rfl (by decide) rfl e15 dX10_weighFace_9 ?_
      obtain ⟨y81, e82⟩ : ∃ y, V8 51 0 = y := ⟨_, rfl⟩
      have b83 := hV9.get 51 0 (lo := 0) (hi := 9) (by decide) (by decide) rfl
      rw [e82] at b83
      refine pm_getf (v := y81) hC 51 fl_X10_79 rfl rfl (by decide) rfl e82 dX10_weighFace_12 ?_
      refine pm_icmp_ge (tgt := 62) hC ⟨by omega, by omega⟩ ⟨by omega, by omega⟩ dX10_weighFace_15 (by decide) (fun c84 => ?_) (fun c84 => ?_)
      · skip
        exact pm_vret hC hR ⟨rfl, hV9, hF10⟩ dX10_weighFace_62
      · skip
        refine pm_aload_n hC 0 (by decide) dX10_weighFace_18 rfl ?_
        rcases hV9.get2 73 13 (lo := 76) (hi := 77) (by decide) (by decide) rfl with e85 | e85
        · skip
          refine pm_getf (v := 76) hC 73 fl_X10_50 rfl rfl (by decide) rfl e85 dX10_weighFace_19 ?_
          refine pm_iload_n hC 1 dX10_weighFace_22 rfl ?_
          refine pm_aload_n hC 0 (by decide) dX10_weighFace_23 rfl ?_
          refine pm_getf (v := 51) hC 73 fl_X10_59 rfl rfl (by decide) rfl e15 dX10_weighFace_24 ?_
          have e86 : V8 51 3 = 54 := hV9.one 51 3 (by decide) (by decide) rfl
          refine pm_getf (v := 54) hC 51 fl_X10_90 rfl rfl (by decide) rfl e86 dX10_weighFace_27 ?_
          refine pm_iload_n hC 1 dX10_weighFace_30 rfl ?_
          obtain ⟨y87, e88⟩ : ∃ y, V8 54 (x6 : Int).toNat = y := ⟨_, rfl⟩
          have b89 := hV9.get 54 (x6 : Int).toNat (lo := 0) (hi := 9) (by decide) (show _ < 9 by omega) rfl
          rw [e88] at b89
          refine pm_iaload (len := 9) (v := y87) hC 54 rfl rfl (by decide) ⟨by omega, by omega⟩ (by decide) e88 dX10_weighFace_31 ?_
          refine pm_i2l hC ⟨by omega, by omega⟩ dX10_weighFace_32 ?_
          refine pm_aload_n hC 0 (by decide) dX10_weighFace_33 rfl ?_
          have e90 : V8 73 9 = 75 := hV9.one 73 9 (by decide) (by decide) rfl
          refine pm_getf (v := 75) hC 73 fl_X10_38 rfl rfl (by decide) rfl e90 dX10_weighFace_34 ?_
          refine pm_iload_n hC 1 dX10_weighFace_37 rfl ?_
          obtain ⟨y91, e92⟩ : ∃ y, V8 75 (x6 : Int).toNat = y := ⟨_, rfl⟩
          have b93 := hV9.get 75 (x6 : Int).toNat (lo := (-9223372036854775808)) (hi := 9223372036854775807) (by decide) (show _ < 9 by omega) rfl
          rw [e92] at b93
          refine pm_laload (len := 9) (v := y91) hC 75 rfl rfl (by decide) ⟨by omega, by omega⟩ (by decide) e92 dX10_weighFace_38 ?_
          refine pm_lmul hC dX10_weighFace_39 ?_
          refine pm_someL hC (fun y94 b95 => ?_)
          have b95 := And.intro b95.1 b95.2
          refine pm_lastore (len := 9) hC 76 rfl rfl (by decide) ⟨by omega, by omega⟩ (by decide) dX10_weighFace_40 ?_
          refine pm_aload_n hC 0 (by decide) dX10_weighFace_41 rfl ?_
          refine pm_dup hC rfl dX10_weighFace_42 ?_
          obtain ⟨y96, e97⟩ : ∃ y, V8 73 14 = y := ⟨_, rfl⟩
          have b98 := hV9.get 73 14 (lo := (-9223372036854775808)) (hi := 9223372036854775807) (by decide) (by decide) rfl
          rw [e97] at b98
          refine pm_getf (v := y96) hC 73 fl_X10_53 rfl rfl (by decide) rfl e97 dX10_weighFace_43 ?_
          refine pm_aload_n hC 0 (by decide) dX10_weighFace_46 rfl ?_
          refine pm_getf (v := 76) hC 73 fl_X10_50 rfl rfl (by decide) rfl e85 dX10_weighFace_47 ?_
          refine pm_iload_n hC 1 dX10_weighFace_50 rfl ?_
          have hV101 := (hV9.put 76 (x6 : Int).toNat (x := y94) (lo := (-9223372036854775808)) (hi := 9223372036854775807) rfl ⟨by omega, by omega⟩)
          have hF102 := (hF10.up 76 (x6 : Int).toNat y94 rfl)
          obtain ⟨V99, hv100⟩ : ∃ V, V = (pm_up V8 76 (x6 : Int).toNat y94) := ⟨_, rfl⟩
          rw [← hv100] at hV101 hF102
          rw [← hv100]
          have e103 : V99 73 0 = 51 := by rw [hv100]; exact e15
          have e104 : V99 51 0 = y81 := by rw [hv100]; exact e82
          have e105 : V99 73 13 = 76 := by rw [hv100]; exact e85
          have e106 : V99 51 3 = 54 := by rw [hv100]; exact e86
          have e107 : V99 73 9 = 75 := by rw [hv100]; exact e90
          have e108 : V99 73 14 = y96 := by rw [hv100]; exact e97
          obtain ⟨y109, e110⟩ : ∃ y, V99 76 (x6 : Int).toNat = y := ⟨_, rfl⟩
          have b111 := hV101.get 76 (x6 : Int).toNat (lo := (-9223372036854775808)) (hi := 9223372036854775807) (by decide) (show _ < 9 by omega) rfl
          rw [e110] at b111
          refine pm_laload (len := 9) (v := y109) hC 76 rfl rfl (by decide) ⟨by omega, by omega⟩ (by decide) e110 dX10_weighFace_51 ?_
          refine pm_ladd hC dX10_weighFace_52 ?_
          refine pm_someL hC (fun y112 b113 => ?_)
          have b113 := And.intro b113.1 b113.2
          refine pm_putf hC 73 fl_X10_53 rfl rfl rfl (by decide) rfl trivial dX10_weighFace_53 ?_
          obtain ⟨x114, ei115⟩ : ∃ y : Int, x6 + 1 = y := ⟨_, rfl⟩
          refine pm_iinc (y := x114) (lv' := [(1, (0, x114)), (0, (3, 73))]) hC 1 dX10_weighFace_56 (by decide) rfl ei115 rfl ?_
          refine pm_goto (tgt := 7) hC dX10_weighFace_59 (by decide) ?_
          refine pm_lvsub [1, 0] (lv' := [(0, (3, 73)), (1, (0, x114))]) rfl ?_
          exact ih14 _ (by omega) x114 (pm_up V99 73 14 y112) ⟨by omega, by omega⟩ (hV101.put 73 14 (x := y112) (lo := (-9223372036854775808)) (hi := 9223372036854775807) rfl ⟨by omega, by omega⟩) (hF102.up 73 14 y112 rfl) rfl
        · skip
          refine pm_getf (v := 77) hC 73 fl_X10_50 rfl rfl (by decide) rfl e85 dX10_weighFace_19 ?_
          refine pm_iload_n hC 1 dX10_weighFace_22 rfl ?_
          refine pm_aload_n hC 0 (by decide) dX10_weighFace_23 rfl ?_
          refine pm_getf (v := 51) hC 73 fl_X10_59 rfl rfl (by decide) rfl e15 dX10_weighFace_24 ?_
          have e116 : V8 51 3 = 54 := hV9.one 51 3 (by decide) (by decide) rfl
          refine pm_getf (v := 54) hC 51 fl_X10_90 rfl rfl (by decide) rfl e116 dX10_weighFace_27 ?_
          refine pm_iload_n hC 1 dX10_weighFace_30 rfl ?_
          obtain ⟨y117, e118⟩ : ∃ y, V8 54 (x6 : Int).toNat = y := ⟨_, rfl⟩
          have b119 := hV9.get 54 (x6 : Int).toNat (lo := 0) (hi := 9) (by decide) (show _ < 9 by omega) rfl
          rw [e118] at b119
          refine pm_iaload (len := 9) (v := y117) hC 54 rfl rfl (by decide) ⟨by omega, by omega⟩ (by decide) e118 dX10_weighFace_31 ?_
          refine pm_i2l hC ⟨by omega, by omega⟩ dX10_weighFace_32 ?_
          refine pm_aload_n hC 0 (by decide) dX10_weighFace_33 rfl ?_
          have e120 : V8 73 9 = 75 := hV9.one 73 9 (by decide) (by decide) rfl
          refine pm_getf (v := 75) hC 73 fl_X10_38 rfl rfl (by decide) rfl e120 dX10_weighFace_34 ?_
          refine pm_iload_n hC 1 dX10_weighFace_37 rfl ?_
          obtain ⟨y121, e122⟩ : ∃ y, V8 75 (x6 : Int).toNat = y := ⟨_, rfl⟩
          have b123 := hV9.get 75 (x6 : Int).toNat (lo := (-9223372036854775808)) (hi := 9223372036854775807) (by decide) (show _ < 9 by omega) rfl
          rw [e122] at b123
          refine pm_laload (len := 9) (v := y121) hC 75 rfl rfl (by decide) ⟨by omega, by omega⟩ (by decide) e122 dX10_weighFace_38 ?_
          refine pm_lmul hC dX10_weighFace_39 ?_
          refine pm_someL hC (fun y124 b125 => ?_)
          have b125 := And.intro b125.1 b125.2
          refine pm_lastore (len := 9) hC 77 rfl rfl (by decide) ⟨by omega, by omega⟩ (by decide) dX10_weighFace_40 ?_
          refine pm_aload_n hC 0 (by decide) dX10_weighFace_41 rfl ?_
          refine pm_dup hC rfl dX10_weighFace_42 ?_
          obtain ⟨y126, e127⟩ : ∃ y, V8 73 14 = y := ⟨_, rfl⟩
          have b128 := hV9.get 73 14 (lo := (-9223372036854775808)) (hi := 9223372036854775807) (by decide) (by decide) rfl
          rw [e127] at b128
          refine pm_getf (v := y126) hC 73 fl_X10_53 rfl rfl (by decide) rfl e127 dX10_weighFace_43 ?_
          refine pm_aload_n hC 0 (by decide) dX10_weighFace_46 rfl ?_
          refine pm_getf (v := 77) hC 73 fl_X10_50 rfl rfl (by decide) rfl e85 dX10_weighFace_47 ?_
          refine pm_iload_n hC 1 dX10_weighFace_50 rfl ?_
          have hV131 := (hV9.put 77 (x6 : Int).toNat (x := y124) (lo := (-9223372036854775808)) (hi := 9223372036854775807) rfl ⟨by omega, by omega⟩)
          have hF132 := (hF10.up 77 (x6 : Int).toNat y124 rfl)
          obtain ⟨V129, hv130⟩ : ∃ V, V = (pm_up V8 77 (x6 : Int).toNat y124) := ⟨_, rfl⟩
          rw [← hv130] at hV131 hF132
          rw [← hv130]
          have e133 : V129 73 0 = 51 := by rw [hv130]; exact e15
          have e134 : V129 51 0 = y81 := by rw [hv130]; exact e82
          have e135 : V129 73 13 = 77 := by rw [hv130]; exact e85
          have e136 : V129 51 3 = 54 := by rw [hv130]; exact e116
          have e137 : V129 73 9 = 75 := by rw [hv130]; exact e120
          have e138 : V129 73 14 = y126 := by rw [hv130]; exact e127
          obtain ⟨y139, e140⟩ : ∃ y, V129 77 (x6 : Int).toNat = y := ⟨_, rfl⟩
          have b141 := hV131.get 77 (x6 : Int).toNat (lo := (-9223372036854775808)) (hi := 9223372036854775807) (by decide) (show _ < 9 by omega) rfl
          rw [e140] at b141
          refine pm_laload (len := 9) (v := y139) hC 77 rfl rfl (by decide) ⟨by omega, by omega⟩ (by decide) e140 dX10_weighFace_51 ?_
          refine pm_ladd hC dX10_weighFace_52 ?_
          refine pm_someL hC (fun y142 b143 => ?_)
          have b143 := And.intro b143.1 b143.2
          refine pm_putf hC 73 fl_X10_53 rfl rfl rfl (by decide) rfl trivial dX10_weighFace_53 ?_
          obtain ⟨x144, ei145⟩ : ∃ y : Int, x6 + 1 = y := ⟨_, rfl⟩
          refine pm_iinc (y := x144) (lv' := [(1, (0, x144)), (0, (3, 73))]) hC 1 dX10_weighFace_56 (by decide) rfl ei145 rfl ?_
          refine pm_goto (tgt := 7) hC dX10_weighFace_59 (by decide) ?_
          refine pm_lvsub [1, 0] (lv' := [(0, (3, 73)), (1, (0, x144))]) rfl ?_
          exact ih14 _ (by omega) x144 (pm_up V129 73 14 y142) ⟨by omega, by omega⟩ (hV131.put 73 14 (x := y142) (lo := (-9223372036854775808)) (hi := 9223372036854775807) rfl ⟨by omega, by omega⟩) (hF132.up 73 14 y142 rfl) rfl
  refine pm_lvsub [1, 0] (lv' := [(0, (3, 73)), (1, (0, 0))]) rfl ?_
  exact L11 _ 0 V1 ⟨by decide, by decide⟩ hV3 hF4 rfl
