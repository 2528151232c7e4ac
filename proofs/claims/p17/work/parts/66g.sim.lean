theorem sl_line {sc : Nat} {V W : pm_M} (hsc : sc = 45 ∨ sc = 51) (hT : sm_T V W) (hK : sm_K V W) (hS : sm_S sc V W) : ∃ y V1 W1, F_X6_readStatement sc V = (y, V1) ∧ F_X12_sceneLine W = (y, W1) ∧ (y = 0 ∨ y = 1) ∧ sm_T V1 W1 ∧ sm_K V1 W1 ∧ (y = 1 → sm_S sc V1 W1 ∧ V 3 4 ≤ V1 3 2) := by
  rw [F_X6_readStatement_eq, F_X12_sceneLine_eq]
  simp only [pf_let, pf_call]
  obtain ⟨y0, c0, r0, h0⟩ := sm_word (c := 495791205988) (j := 0) hK sm_pk.1
  rw [c0, r0]
  simp only []
  by_cases q0 : y0 = 0
  rotate_left
  · rw [if_neg q0, if_neg q0]
    obtain ⟨y, V1, W1, a1, a2, a3⟩ := sl_sound hsc hT hK hS
    rw [a1, a2]
    exact ⟨y, V1, W1, rfl, rfl, a3⟩
  rw [if_pos q0, if_pos q0]
  obtain ⟨y1, c1, r1, h1⟩ := sm_word (c := 508675318629) (j := 1) hK sm_pk.2.1
  rw [c1, r1]
  simp only []
  by_cases q1 : y1 = 0
  rotate_left
  · rw [if_neg q1, if_neg q1]
    obtain ⟨y, V1, W1, a1, a2, a3⟩ := sl_voice hsc hT hK hS
    rw [a1, a2]
    exact ⟨y, V1, W1, rfl, rfl, a3⟩
  rw [if_pos q1, if_pos q1]
  obtain ⟨y2, c2, r2, h2⟩ := sm_word (c := 1717658469) (j := 2) hK sm_pk.2.2.1
  rw [c2, r2]
  simp only []
  by_cases q2 : y2 = 0
  rotate_left
  · rw [if_neg q2, if_neg q2]
    obtain ⟨y, V1, W1, a1, a2, a3⟩ := sl_face hsc hT hK hS
    rw [a1, a2]
    exact ⟨y, V1, W1, rfl, rfl, a3⟩
  rw [if_pos q2, if_pos q2]
  obtain ⟨y3, c3, r3, h3⟩ := sm_word (c := 1868850291) (j := 3) hK sm_pk.2.2.2.1
  rw [c3, r3]
  simp only []
  by_cases q3 : y3 = 0
  rotate_left
  · rw [if_neg q3, if_neg q3]
    obtain ⟨y, V1, W1, a1, a2, a3⟩ := sl_odds hsc hT hK hS
    rw [a1, a2]
    exact ⟨y, V1, W1, rfl, rfl, a3⟩
  rw [if_pos q3, if_pos q3]
  obtain ⟨y4, c4, r4, h4⟩ := sm_word (c := 1752132708) (j := 4) hK sm_pk.2.2.2.2.1
  rw [c4, r4]
  simp only []
  by_cases q4 : y4 = 0
  rotate_left
  · rw [if_neg q4, if_neg q4]
    obtain ⟨y, V1, W1, a1, a2, a3⟩ := sl_hold hsc hT hK hS
    rw [a1, a2]
    exact ⟨y, V1, W1, rfl, rfl, a3⟩
  rw [if_pos q4, if_pos q4]
  obtain ⟨y5, c5, r5, h5⟩ := sm_word (c := 465557353070) (j := 5) hK sm_pk.2.2.2.2.2
  rw [c5, r5]
  simp only []
  by_cases q5 : y5 = 0
  rotate_left
  · rw [if_neg q5, if_neg q5]
    obtain ⟨y, V1, W1, a1, a2, a3, a4⟩ := sl_learn hsc hT hK hS
    rw [a1, a2]
    simp only []
    rcases a3 with a3 | a3
    · subst a3
      rw [if_pos rfl, if_pos rfl]
      exact ⟨0, V1, W1, rfl, rfl, Or.inl rfl, a4⟩
    · subst a3
      rw [if_neg (by decide), if_neg (by decide)]
      exact ⟨1, V1, W1, rfl, rfl, Or.inr rfl, a4⟩
  rw [if_pos q5, if_pos q5]
  exact ⟨0, V, W, rfl, rfl, Or.inl rfl, hT, hK, fun q => absurd q (by decide)⟩
theorem sl_whole {sc : Nat} {V W : pm_M} (hS : sm_S sc V W) : ∃ y, F_X5_isWhole sc V = (y, V) ∧ ((y = 0 ∧ (W 90 6 < 2 ∨ W 95 0 = -1 ∨ W 95 2 = -1)) ∨ (y = 1 ∧ ¬ W 90 6 < 2 ∧ ¬ W 95 0 = -1 ∧ ¬ W 95 2 = -1 ∧ 2 ≤ V sc 0 ∧ 1 ≤ V sc 4 ∧ 1 ≤ V sc 6)) := by
  obtain ⟨s1, s2, s3, s4, s5⟩ := hS
  have h1 := s1.1
  unfold sm_S2 at s2
  unfold sm_S3 at s3
  rw [F_X5_isWhole_eq]
  simp only [pf_let]
  by_cases a1 : V sc 0 < 2
  · rw [if_pos a1]
    exact ⟨0, rfl, Or.inl ⟨rfl, by omega⟩⟩
  · rw [if_neg a1]
    by_cases a2 : V sc 4 ≤ 0
    · rw [if_pos a2]
      exact ⟨0, rfl, Or.inl ⟨rfl, by omega⟩⟩
    · rw [if_neg a2]
      by_cases a3 : V sc 6 ≤ 0
      · rw [if_pos a3]
        exact ⟨0, rfl, Or.inl ⟨rfl, by omega⟩⟩
      · rw [if_neg a3]
        exact ⟨1, rfl, Or.inr ⟨rfl, by omega, by omega, by omega, by omega, by omega, by omega⟩⟩
/-- THE TWO READ A SCENE ALIKE -/
theorem sl_fault {sc : Nat} {V W : pm_M} (hsc : sc = 45 ∨ sc = 51) (hT : sm_T V W) : ∃ y V1 W1, F_X6_read sc V = (y, V1) ∧ F_X12_sceneFault W = (y, W1) ∧ sm_T V1 W1 ∧ -1 ≤ y ∧ (y = -1 → sm_S sc V1 W1 ∧ 2 ≤ V1 sc 0 ∧ 1 ≤ V1 sc 4 ∧ 1 ≤ V1 sc 6) := by
  have h1 := F_X6_read_eq sc V
  have h2 := F_X12_sceneFault_eq W
  simp only [pf_let, pf_call, F_X5_clear_eq, F_X9_begin_eq, show (0 : Int).toNat = 0 from rfl, show (2 : Int).toNat = 2 from rfl] at h1 h2
  obtain ⟨X, hX⟩ : ∃ X, X = pm_up (pm_up (pm_up (pm_up (pm_up (pm_up (pm_up (pm_up (pm_up (pm_up (pm_up V 69 3 (sc : Int)) sc 0 0) sc 4 0) sc 5 0) sc 6 0) sc 7 0) sc 8 16) sc 9 99) sc 10 0) 69 4 0) 3 4 0 := ⟨_, rfl⟩
  obtain ⟨Y, hY⟩ : ∃ Y, Y = pm_up (pm_up (pm_up (pm_up (pm_up (pm_up W 90 6 0) 90 13 0) 95 0 (-1)) 95 2 (-1)) 90 11 (-1)) 90 2 0 := ⟨_, rfl⟩
  rw [← hX] at h1
  rw [← hY] at h2
  have tX : sm_T X Y := hT.up (by rw [hX]; rcases hsc with rfl | rfl <;> simp [pm_up, pm_up_f]) (by rw [hX]; rcases hsc with rfl | rfl <;> simp [pm_up, pm_up_f]) (by rw [hY]; simp [pm_up, pm_up_f]) (by rw [hY]; simp [pm_up, pm_up_f])
  have x34 : X 3 4 = 0 := by rw [hX]; exact pm_up_s
  have y2 : Y 90 2 = 0 := by rw [hY]; exact pm_up_s
  obtain ⟨V1, W1, c1, r1, c2, r2, t1, k1, p1⟩ := sm_step tX (by omega) ⟨by omega, by have := tX.2.1; omega⟩
  rw [c1] at h1
  rw [r1] at h2
  simp only [] at h1 h2
  have sX : sm_S sc X Y := by
    have a0 : X sc 0 = 0 := by rw [hX]; rcases hsc with rfl | rfl <;> simp [pm_up, pm_up_f]
    have b6 : Y 90 6 = 0 := by rw [hY]; simp [pm_up, pm_up_f]
    have a10 : X sc 10 = 0 := by rw [hX]; rcases hsc with rfl | rfl <;> simp [pm_up, pm_up_f]
    have b13 : Y 90 13 = 0 := by rw [hY]; simp [pm_up, pm_up_f]
    refine ⟨⟨by omega, by omega, by omega, fun j hj => by omega⟩, Or.inl ⟨by rw [hY]; simp [pm_up, pm_up_f], by rw [hX]; rcases hsc with rfl | rfl <;> simp [pm_up, pm_up_f]⟩, Or.inl ⟨by rw [hY]; simp [pm_up, pm_up_f], by rw [hX]; rcases hsc with rfl | rfl <;> simp [pm_up, pm_up_f]⟩, Or.inl ⟨by rw [hY]; simp [pm_up, pm_up_f], by rw [hX]; simp [pm_up, pm_up_f], by rw [hX]; rcases hsc with rfl | rfl <;> simp [pm_up, pm_up_f], by rw [hX]; rcases hsc with rfl | rfl <;> simp [pm_up, pm_up_f]⟩, ⟨by omega, by omega, by omega, fun k hk => by omega⟩⟩
  have s1 := sX.st hsc (fun k a _ => c2 k a) (by rw [c2 69 (by decide)]) r2.g
  obtain ⟨B, hB, h1⟩ := pf_loop h1
  obtain ⟨D, hD, h2⟩ := pf_loop h2
  have hBx : ∀ (x k : Int) (V : pm_M), _ := fun x k V => congrFun hB (x, k, V)
  have hDx : ∀ (V : pm_M), _ := fun V => congrFun hD V
  simp only [] at hBx hDx
  rw [h1, h2]
  clear h1 h2 hB hD
  have key : ∀ (N : Nat) (k : Int) (V W : pm_M), (500 - k).toNat = N → 0 ≤ k → k ≤ V 3 2 → sm_T V W → sm_K V W → sm_S sc V W → ∀ (d1 d2 : Int × pm_M), ∃ y V1 W1, pf_val d1 B (1, k, V) = (y, V1) ∧ pf_val d2 D W = (y, W1) ∧ sm_T V1 W1 ∧ -1 ≤ y ∧ (y = -1 → sm_S sc V1 W1 ∧ 2 ≤ V1 sc 0 ∧ 1 ≤ V1 sc 4 ∧ 1 ≤ V1 sc 6) := by
    intro N
    induction N using Nat.strongRecOn with
    | _ N ih =>
      intro k V W hN hk hk2 hT hK hS d1 d2
      have f := hK.ln
      have hn := hT.2.2.1
      have b0 := hBx 1 k V
      have e0 := hDx W
      by_cases q0 : V 3 1 = 0
      · have q1 : W 90 3 = 0 := hK.flat.2.2.2.2.1.mp q0
        rw [if_pos q1] at e0
        obtain ⟨z, z1, z2⟩ := sl_whole hS
        have b1 : B (1, k, V) = (if z = 0 then .inr (V 3 2, V) else .inr (-1, V)) := by
          rw [b0, z1]
          simp only []
          by_cases q2 : 500 ≤ k
          · rw [if_pos q2, if_neg (by decide)]
          · rw [if_neg q2, if_neg (by decide), if_pos q0, if_neg (by decide)]
        rcases z2 with ⟨z3, z4⟩ | ⟨z3, z4, z5, z6, z7⟩
        · rw [if_pos z3] at b1
          have e1 : D W = .inr (W 90 4, W) := by
            rw [e0]
            by_cases w1 : W 90 6 < 2
            · rw [if_pos w1]
            · rw [if_neg w1]
              by_cases w2 : W 95 0 = -1
              · rw [if_pos w2]
              · rw [if_neg w2, if_neg (fun q => q (by omega))]
          rw [pf_val_inr b1, pf_val_inr e1]
          exact ⟨V 3 2, V, W, rfl, by rw [hK.flat.2.2.2.2.2.2.2.2.2.1], hT, by omega, fun q => by omega⟩
        · rw [if_neg (by omega)] at b1
          have e1 : D W = .inr (-1, W) := by
            rw [e0, if_neg z4, if_neg z5, if_pos z6]
          rw [pf_val_inr b1, pf_val_inr e1]
          exact ⟨-1, V, W, rfl, rfl, hT, by decide, fun _ => ⟨hS, z7⟩⟩
      · have q1 : ¬ W 90 3 = 0 := fun q => q0 (hK.flat.2.2.2.2.1.mpr q)
        rw [if_neg q1] at e0
        have hp := hK.flat.2.2.2.2.2.2.2.2.2.2.2.2.2.2.2 q0
        rw [if_neg (show ¬ 500 ≤ k by omega), if_neg (by decide), if_neg q0] at b0
        obtain ⟨y, V1, W1, a1, a2, a3, a4, a5, a6⟩ := sl_line hsc hT hK hS
        rw [a1] at b0
        rw [a2] at e0
        simp only [] at b0 e0
        rw [pf_val_inl b0]
        rcases a3 with a3 | a3
        · subst a3
          rw [if_neg (fun q => q rfl)] at e0
          have f1 := a5.ln
          have b2 := hBx 0 (k + 1) V1
          have b3 : B (0, k + 1, V1) = .inr (V1 3 2, V1) := by
            rw [b2]
            by_cases q2 : 500 ≤ k + 1
            · rw [if_pos q2, if_pos rfl]
            · rw [if_neg q2, if_pos rfl, if_pos rfl]
          rw [pf_val_inr b3, pf_val_inr e0]
          exact ⟨V1 3 2, V1, W1, rfl, by rw [a5.flat.2.2.2.2.2.2.2.2.2.1], a4, by omega, fun q => by omega⟩
        · subst a3
          rw [if_pos (by decide)] at e0
          rw [pf_val_inl e0]
          obtain ⟨s2, p2⟩ := a6 rfl
          exact ih (500 - (k + 1)).toNat (by omega) (k + 1) V1 W1 rfl (by omega) (by omega) a4 a5 s2 d1 d2
  have f1 := k1.ln
  exact key _ 0 V1 W1 rfl (by decide) (by omega) t1 k1 s1 _ _
