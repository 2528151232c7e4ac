
theorem sl_voice {sc : Nat} {V W : pm_M} (hsc : sc = 45 ∨ sc = 51) (hT : sm_T V W) (hK : sm_K V W) (hS : sm_S sc V W) : ∃ y V1 W1, F_X6_readVoice sc V = (y, V1) ∧ F_X12_spanLine_d0 W = (y, W1) ∧ (y = 0 ∨ y = 1) ∧ sm_T V1 W1 ∧ sm_K V1 W1 ∧ (y = 1 → sm_S sc V1 W1 ∧ V 3 4 ≤ V1 3 2) := by
  rw [F_X6_readVoice_eq, F_X12_spanLine_d0_eq]
  simp only [pf_let, pf_call, show (0 : Int).toNat = 0 from rfl, show (1 : Int).toNat = 1 from rfl]
  have hS2 := hS.2.1
  unfold sm_S2 at hS2
  by_cases h0 : W 95 0 = -1
  · have hv : V sc 4 = 0 := by omega
    rw [if_neg (show ¬ 0 < V sc 4 by omega), if_pos h0]
    obtain ⟨W1, r1, hn⟩ := sl_nums (sc := sc) (a := 1) (b := 60) (c := 0) (d := 9) hT hK (by decide) (by decide)
    rw [r1]
    simp only []
    rcases hn with ⟨V1, c1, r2, t1, k1⟩ | ⟨W2, r2, hn⟩
    · rw [c1, r2]
      exact ⟨0, V1, W1, rfl, rfl, Or.inl rfl, t1, k1, fun q => absurd q (by decide)⟩
    · rcases hn with ⟨V2, c1, r3, t1, k1⟩ | ⟨V3, W3, c1, r3, a1, a2, a3, a4, a5, a6, f1, f2, f3, t1, k1, p1⟩
      · rw [c1, r2, r3]
        exact ⟨0, V2, W2, rfl, rfl, Or.inl rfl, t1, k1, fun q => absurd q (by decide)⟩
      · rw [c1, r2, r3]
        have s3 := hS.st hsc f1 f2 f3
        obtain ⟨y, V4, W4, c4, r4, y4, g4, h4, t4, k4, p4⟩ := sl_closes (sc := sc) (V := pm_up (pm_up V3 sc 4 (V3 69 5)) sc 5 (V3 69 6)) (W := pm_up (pm_up W3 95 0 (W2 90 37)) 95 1 (W3 90 37)) (t1.up (by rcases hsc with rfl | rfl <;> simp [pm_up, pm_up_f]) (by rcases hsc with rfl | rfl <;> simp [pm_up, pm_up_f]) (by simp [pm_up, pm_up_f]) (by simp [pm_up, pm_up_f])) (k1.up (by rcases hsc with rfl | rfl <;> simp [pm_up, pm_up_f]) (by rcases hsc with rfl | rfl <;> simp [pm_up, pm_up_f]) (by simp [pm_up, pm_up_f]) (by simp [pm_up, pm_up_f]) (by simp [pm_up, pm_up_f]) (by simp [pm_up, pm_up_f]))
        simp only []
        rw [if_pos (show ¬ ((1 : Int) = 0) by decide), if_pos (show ¬ ((1 : Int) = 0) by decide), if_pos (show ¬ ((1 : Int) = 0) by decide), c4, r4]
        refine ⟨y, V4, W4, rfl, rfl, y4, t4, k4, fun _ => ⟨sm_S.st (V := pm_up (pm_up V3 sc 4 (V3 69 5)) sc 5 (V3 69 6)) (W := pm_up (pm_up W3 95 0 (W2 90 37)) 95 1 (W3 90 37)) hsc ?_ (fun k k1 _ => g4 k k1) (by rw [g4 69 (by decide)]) h4, ?_⟩⟩
        · obtain ⟨s31, s32, s33, s34, s35⟩ := s3
          rcases hsc with rfl | rfl <;> exact ⟨by simpa [sm_S1, pm_up, pm_up_f] using s31, by simp [sm_S2, pm_up, pm_up_f]; omega, by simpa [sm_S3, pm_up, pm_up_f] using s33, by simpa [sm_S4, pm_up, pm_up_f] using s34, by simpa [sm_S5, pm_up, pm_up_f] using s35⟩
        · have e3 : pm_up (pm_up V3 sc 4 (V3 69 5)) sc 5 (V3 69 6) 3 = V3 3 := by rcases hsc with rfl | rfl <;> simp [pm_up, pm_up_f]
          rw [e3] at p4
          omega
  · rw [if_neg h0, if_pos (show 0 < V sc 4 by omega)]
    exact ⟨0, V, W, rfl, rfl, Or.inl rfl, hT, hK, fun q => absurd q (by decide)⟩

theorem sl_face {sc : Nat} {V W : pm_M} (hsc : sc = 45 ∨ sc = 51) (hT : sm_T V W) (hK : sm_K V W) (hS : sm_S sc V W) : ∃ y V1 W1, F_X6_readFace sc V = (y, V1) ∧ F_X12_spanLine_d2 W = (y, W1) ∧ (y = 0 ∨ y = 1) ∧ sm_T V1 W1 ∧ sm_K V1 W1 ∧ (y = 1 → sm_S sc V1 W1 ∧ V 3 4 ≤ V1 3 2) := by
  rw [F_X6_readFace_eq, F_X12_spanLine_d2_eq]
  simp only [pf_let, pf_call, show (2 : Int).toNat = 2 from rfl, show (3 : Int).toNat = 3 from rfl]
  have hS2 := hS.2.2.1
  unfold sm_S3 at hS2
  by_cases h0 : W 95 2 = -1
  · have hv : V sc 6 = 0 := by omega
    rw [if_neg (show ¬ 0 < V sc 6 by omega), if_pos h0]
    obtain ⟨W1, r1, hn⟩ := sl_nums (sc := sc) (a := 1) (b := 60) (c := 0) (d := 9) hT hK (by decide) (by decide)
    rw [r1]
    simp only []
    rcases hn with ⟨V1, c1, r2, t1, k1⟩ | ⟨W2, r2, hn⟩
    · rw [c1, r2]
      exact ⟨0, V1, W1, rfl, rfl, Or.inl rfl, t1, k1, fun q => absurd q (by decide)⟩
    · rcases hn with ⟨V2, c1, r3, t1, k1⟩ | ⟨V3, W3, c1, r3, a1, a2, a3, a4, a5, a6, f1, f2, f3, t1, k1, p1⟩
      · rw [c1, r2, r3]
        exact ⟨0, V2, W2, rfl, rfl, Or.inl rfl, t1, k1, fun q => absurd q (by decide)⟩
      · rw [c1, r2, r3]
        have s3 := hS.st hsc f1 f2 f3
        obtain ⟨y, V4, W4, c4, r4, y4, g4, h4, t4, k4, p4⟩ := sl_closes (sc := sc) (V := pm_up (pm_up V3 sc 6 (V3 69 5)) sc 7 (V3 69 6)) (W := pm_up (pm_up W3 95 2 (W2 90 37)) 95 3 (W3 90 37)) (t1.up (by rcases hsc with rfl | rfl <;> simp [pm_up, pm_up_f]) (by rcases hsc with rfl | rfl <;> simp [pm_up, pm_up_f]) (by simp [pm_up, pm_up_f]) (by simp [pm_up, pm_up_f])) (k1.up (by rcases hsc with rfl | rfl <;> simp [pm_up, pm_up_f]) (by rcases hsc with rfl | rfl <;> simp [pm_up, pm_up_f]) (by simp [pm_up, pm_up_f]) (by simp [pm_up, pm_up_f]) (by simp [pm_up, pm_up_f]) (by simp [pm_up, pm_up_f]))
        simp only []
        rw [if_pos (show ¬ ((1 : Int) = 0) by decide), if_pos (show ¬ ((1 : Int) = 0) by decide), if_pos (show ¬ ((1 : Int) = 0) by decide), c4, r4]
        refine ⟨y, V4, W4, rfl, rfl, y4, t4, k4, fun _ => ⟨sm_S.st (V := pm_up (pm_up V3 sc 6 (V3 69 5)) sc 7 (V3 69 6)) (W := pm_up (pm_up W3 95 2 (W2 90 37)) 95 3 (W3 90 37)) hsc ?_ (fun k k1 _ => g4 k k1) (by rw [g4 69 (by decide)]) h4, ?_⟩⟩
        · obtain ⟨s31, s32, s33, s34, s35⟩ := s3
          rcases hsc with rfl | rfl <;> exact ⟨by simpa [sm_S1, pm_up, pm_up_f] using s31, by simpa [sm_S2, pm_up, pm_up_f] using s32, by simp [sm_S3, pm_up, pm_up_f]; omega, by simpa [sm_S4, pm_up, pm_up_f] using s34, by simpa [sm_S5, pm_up, pm_up_f] using s35⟩
        · have e3 : pm_up (pm_up V3 sc 6 (V3 69 5)) sc 7 (V3 69 6) 3 = V3 3 := by rcases hsc with rfl | rfl <;> simp [pm_up, pm_up_f]
          rw [e3] at p4
          omega
  · rw [if_neg h0, if_pos (show 0 < V sc 6 by omega)]
    exact ⟨0, V, W, rfl, rfl, Or.inl rfl, hT, hK, fun q => absurd q (by decide)⟩

theorem sl_odds {sc : Nat} {V W : pm_M} (hsc : sc = 45 ∨ sc = 51) (hT : sm_T V W) (hK : sm_K V W) (hS : sm_S sc V W) : ∃ y V1 W1, F_X6_readOdds sc V = (y, V1) ∧ F_X12_oddsLine W = (y, W1) ∧ (y = 0 ∨ y = 1) ∧ sm_T V1 W1 ∧ sm_K V1 W1 ∧ (y = 1 → sm_S sc V1 W1 ∧ V 3 4 ≤ V1 3 2) := by
  rw [F_X6_readOdds_eq, F_X12_oddsLine_eq]
  simp only [pf_let, pf_call]
  have hS4 := hS.2.2.2.1
  unfold sm_S4 at hS4
  by_cases h0 : W 90 11 = -1
  · have hv : V 69 4 = 0 := by omega
    rw [if_neg (fun q => q hv), if_pos h0]
    obtain ⟨W1, r1, hn⟩ := sl_nums (sc := sc) (a := 0) (b := 16) (c := 1) (d := 99) hT hK (by decide) (by decide)
    rw [r1]
    simp only []
    rcases hn with ⟨V1, c1, r2, t1, k1⟩ | ⟨W2, r2, hn⟩
    · rw [c1, r2]
      exact ⟨0, V1, W1, rfl, rfl, Or.inl rfl, t1, k1, fun q => absurd q (by decide)⟩
    · rcases hn with ⟨V2, c1, r3, t1, k1⟩ | ⟨V3, W3, c1, r3, a1, a2, a3, a4, a5, a6, f1, f2, f3, t1, k1, p1⟩
      · rw [c1, r2, r3]
        exact ⟨0, V2, W2, rfl, rfl, Or.inl rfl, t1, k1, fun q => absurd q (by decide)⟩
      · rw [c1, r2, r3]
        have s3 := hS.st hsc f1 f2 f3
        obtain ⟨y, V4, W4, c4, r4, y4, g4, h4, t4, k4, p4⟩ := sl_closes (sc := sc) (V := pm_up (pm_up (pm_up V3 69 4 1) sc 8 (V3 69 5)) sc 9 (V3 69 6)) (W := pm_up (pm_up W3 90 11 (W2 90 37)) 90 12 (W3 90 37)) (t1.up (by rcases hsc with rfl | rfl <;> simp [pm_up, pm_up_f]) (by rcases hsc with rfl | rfl <;> simp [pm_up, pm_up_f]) (by simp [pm_up, pm_up_f]) (by simp [pm_up, pm_up_f])) (k1.up (by rcases hsc with rfl | rfl <;> simp [pm_up, pm_up_f]) (by rcases hsc with rfl | rfl <;> simp [pm_up, pm_up_f]) (by simp [pm_up, pm_up_f]) (by simp [pm_up, pm_up_f]) (by simp [pm_up, pm_up_f]) (by simp [pm_up, pm_up_f]))
        simp only []
        rw [if_pos (show ¬ ((1 : Int) = 0) by decide), if_pos (show ¬ ((1 : Int) = 0) by decide), if_pos (show ¬ ((1 : Int) = 0) by decide), c4, r4]
        refine ⟨y, V4, W4, rfl, rfl, y4, t4, k4, fun _ => ⟨sm_S.st (V := pm_up (pm_up (pm_up V3 69 4 1) sc 8 (V3 69 5)) sc 9 (V3 69 6)) (W := pm_up (pm_up W3 90 11 (W2 90 37)) 90 12 (W3 90 37)) hsc ?_ (fun k k1 _ => g4 k k1) (by rw [g4 69 (by decide)]) h4, ?_⟩⟩
        · obtain ⟨s31, s32, s33, s34, s35⟩ := s3
          rcases hsc with rfl | rfl <;> exact ⟨by simpa [sm_S1, pm_up, pm_up_f] using s31, by simpa [sm_S2, pm_up, pm_up_f] using s32, by simpa [sm_S3, pm_up, pm_up_f] using s33, by simp [sm_S4, pm_up, pm_up_f]; omega, by simpa [sm_S5, pm_up, pm_up_f] using s35⟩
        · have e3 : pm_up (pm_up (pm_up V3 69 4 1) sc 8 (V3 69 5)) sc 9 (V3 69 6) 3 = V3 3 := by rcases hsc with rfl | rfl <;> simp [pm_up, pm_up_f]
          rw [e3] at p4
          omega
  · rw [if_neg h0, if_pos (show ¬ V 69 4 = 0 by omega)]
    exact ⟨0, V, W, rfl, rfl, Or.inl rfl, hT, hK, fun q => absurd q (by decide)⟩
