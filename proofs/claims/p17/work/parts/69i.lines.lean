theorem sr_hd {rc : Nat} (hr : 4 ≤ rc) {V W : pm_M} (h : su_R V W) (hz : V rc 0 = W 90 32) (h10 : V rc 0 ≤ 10) : ∃ y V1, F_X3_readHead rc V = (y, V1) ∧ ((y = 0 ∧ ∃ W1, F_X12_ruleLine W = (0, W1) ∧ su_R V1 W1) ∨ (y = 1 ∧ V rc 0 < 10 ∧ V1 rc 0 = V rc 0 ∧ V1 3 1 = 1 ∧ V 3 2 + 1 ≤ V1 3 2 ∧ ∃ k W1, F_X12_ruleLine W = pf_val ((0 : Int), W) (sr_b W (W 90 32) k) (1, W1) ∧ su_R V1 W1)) := by
  rw [F_X3_readHead_eq, sr_line_eq]
  simp only [pf_let, pf_call]
  obtain ⟨y0, c0, r0, d0⟩ := sm_word (c := 1667329132) (j := 11) h.2 (by decide +kernel)
  rw [c0, r0]
  dsimp only
  by_cases q0 : y0 = 0
  · rw [if_pos q0, if_pos q0]
    exact ⟨0, V, rfl, Or.inl ⟨rfl, W, rfl, h⟩⟩
  · rw [if_neg q0, if_neg q0]
    have w0 : V 3 1 = 1 := by
      rcases d0 with d0 | ⟨-, d0⟩
      · exact absurd d0 q0
      · exact d0
    have l0 := su_len h (by rw [w0]; decide)
    by_cases q10 : V rc 0 < 10
    · rw [if_pos q10, if_pos (show ¬ (W 90 32 = 10) by omega)]
      obtain ⟨Va, Wa, s1, s2, s3, s4, s5, s6⟩ := su_nx h
      rw [s1, s2]
      dsimp only
      have la := s3.2.ln
      -- behind the outcome's word
      have fin : ∀ o : Int, Va 3 1 = 1 → ∃ Vb Vc Wc z, F_X2_beginLine rc o Va = (0, Vb) ∧ F_X9_step Vb = (0, Vc) ∧ F_X12_leads Wa = (0, Wc) ∧ F_X9_isWord 26982 Vc = (z, Vc) ∧ F_X12_isWord 16 Wc = (z, Wc) ∧ su_R Vc Wc ∧ (z = 0 ∨ (z = 1 ∧ Vc 3 1 = 1)) ∧ Vc rc 0 = V rc 0 ∧ V 3 2 + 1 ≤ Vc 3 2 := by
        intro o hw
        obtain ⟨Vb, e1, f1⟩ := sr_begin rc o Va
        have hb : su_R Vb Wa := s3.up (f1 1 (by omega) (by omega)) (f1 2 (by omega) (by omega)) (f1 3 (by omega) (by omega))
        obtain ⟨Vc, Wc, t1, t2, t3, t4, t5, t6⟩ := su_nx hb
        obtain ⟨z, z1, z2, z3⟩ := sm_word (c := 26982) (j := 16) t3.2 (by decide +kernel)
        have lb := su_len s3 (by rw [hw]; decide)
        rw [f1 3 (by omega) (by omega)] at t6
        refine ⟨Vb, Vc, Wc, z, e1, t1, t2, z1, z2, t3, ?_, ?_, by omega⟩
        · rcases z3 with z3 | ⟨z3, z4⟩
          · exact Or.inl z3
          · exact Or.inr ⟨z3, z4⟩
        · rw [t4 rc (by omega), f1 rc (by omega) (by omega), s4 rc (by omega)]
      obtain ⟨y12, c12, r12, d12⟩ := sm_word (c := 440057161060) (j := 12) s3.2 (by decide +kernel)
      obtain ⟨y13, c13, r13, d13⟩ := sm_word (c := 418497262196) (j := 13) s3.2 (by decide +kernel)
      obtain ⟨y14, c14, r14, d14⟩ := sm_word (c := 448377483876) (j := 14) s3.2 (by decide +kernel)
      obtain ⟨y15, c15, r15, d15⟩ := sm_word (c := 1936024942) (j := 15) s3.2 (by decide +kernel)
      have eo : F_X3_outcomeOfWord rc Va = (if y12 = 0 then (if y13 = 0 then (if y14 = 0 then (if y15 = 0 then -1 else 3) else 2) else 1) else 0, Va) := by
        rw [F_X3_outcomeOfWord_eq]
        simp only [pf_call]
        rw [c12, c13, c14, c15]
        dsimp only
        by_cases k12 : y12 = 0
        · by_cases k13 : y13 = 0
          · by_cases k14 : y14 = 0
            · by_cases k15 : y15 = 0
              · simp only [if_pos k12, if_pos k13, if_pos k14, if_pos k15]
              · simp only [if_pos k12, if_pos k13, if_pos k14, if_neg k15]
            · simp only [if_pos k12, if_pos k13, if_neg k14]
          · simp only [if_pos k12, if_neg k13]
        · simp only [if_neg k12]
      rw [r12, r13, r14, r15]
      dsimp only
      have nz : ∀ {y : Int}, (y = 0 ∨ (y = 1 ∧ Va 3 1 = 1)) → y ≠ 0 → Va 3 1 = 1 := by
        intro y a b
        rcases a with a | ⟨-, a⟩
        · exact absurd a b
        · exact a
      by_cases k12 : y12 = 0
      · rw [if_pos k12]
        rw [if_pos k12] at eo
        by_cases k13 : y13 = 0
        · rw [if_pos k13]
          rw [if_pos k13] at eo
          by_cases k14 : y14 = 0
          · rw [if_pos k14]
            rw [if_pos k14] at eo
            by_cases k15 : y15 = 0
            · rw [if_pos k15]
              rw [if_pos k15] at eo
              rw [eo]
              dsimp only
              rw [if_neg (fun q => q rfl)]
              exact ⟨0, Va, rfl, Or.inl ⟨rfl, Wa, rfl, s3⟩⟩
            · rw [if_neg k15]
              rw [if_neg k15] at eo
              rw [eo]
              obtain ⟨Vb, Vc, Wc, z, e1, e2, e3, e4, e5, e6, e7, e8, e9⟩ := fin 3 (nz d15 k15)
              dsimp only
              rw [if_pos (by decide), e1, e3]
              dsimp only
              rw [e2, e5]
              dsimp only
              rw [e4]
              rcases e7 with e7 | ⟨e7, e10⟩
              · subst e7
                rw [if_neg (fun q => q rfl)]
                exact ⟨0, Vc, rfl, Or.inl ⟨rfl, Wc, rfl, e6⟩⟩
              · subst e7
                rw [if_pos (by decide)]
                exact ⟨1, Vc, rfl, Or.inr ⟨rfl, q10, e8, e10, e9, 3, Wc, rfl, e6⟩⟩
          · rw [if_neg k14]
            rw [if_neg k14] at eo
            rw [eo]
            obtain ⟨Vb, Vc, Wc, z, e1, e2, e3, e4, e5, e6, e7, e8, e9⟩ := fin 2 (nz d14 k14)
            dsimp only
            rw [if_pos (by decide), e1, e3]
            dsimp only
            rw [e2, e5]
            dsimp only
            rw [e4]
            rcases e7 with e7 | ⟨e7, e10⟩
            · subst e7
              rw [if_neg (fun q => q rfl)]
              exact ⟨0, Vc, rfl, Or.inl ⟨rfl, Wc, rfl, e6⟩⟩
            · subst e7
              rw [if_pos (by decide)]
              exact ⟨1, Vc, rfl, Or.inr ⟨rfl, q10, e8, e10, e9, 2, Wc, rfl, e6⟩⟩
        · rw [if_neg k13]
          rw [if_neg k13] at eo
          rw [eo]
          obtain ⟨Vb, Vc, Wc, z, e1, e2, e3, e4, e5, e6, e7, e8, e9⟩ := fin 1 (nz d13 k13)
          dsimp only
          rw [if_pos (by decide), e1, e3]
          dsimp only
          rw [e2, e5]
          dsimp only
          rw [e4]
          rcases e7 with e7 | ⟨e7, e10⟩
          · subst e7
            rw [if_neg (fun q => q rfl)]
            exact ⟨0, Vc, rfl, Or.inl ⟨rfl, Wc, rfl, e6⟩⟩
          · subst e7
            rw [if_pos (by decide)]
            exact ⟨1, Vc, rfl, Or.inr ⟨rfl, q10, e8, e10, e9, 1, Wc, rfl, e6⟩⟩
      · rw [if_neg k12]
        rw [if_neg k12] at eo
        rw [eo]
        obtain ⟨Vb, Vc, Wc, z, e1, e2, e3, e4, e5, e6, e7, e8, e9⟩ := fin 0 (nz d12 k12)
        dsimp only
        rw [if_pos (by decide), e1, e3]
        dsimp only
        rw [e2, e5]
        dsimp only
        rw [e4]
        rcases e7 with e7 | ⟨e7, e10⟩
        · subst e7
          rw [if_neg (fun q => q rfl)]
          exact ⟨0, Vc, rfl, Or.inl ⟨rfl, Wc, rfl, e6⟩⟩
        · subst e7
          rw [if_pos (by decide)]
          exact ⟨1, Vc, rfl, Or.inr ⟨rfl, q10, e8, e10, e9, 0, Wc, rfl, e6⟩⟩
    · rw [if_neg q10, if_neg (show ¬ ¬ (W 90 32 = 10) by omega)]
      exact ⟨0, V, rfl, Or.inl ⟨rfl, W, rfl, h⟩⟩
/-- a line of rules: both answer alike -/
theorem sr_line {rc : Nat} (hr : 4 ≤ rc) {V W : pm_M} (h : su_R V W) (hz : V rc 0 = W 90 32) (h10 : V rc 0 ≤ 10) : ∃ y V1 W1, F_X3_readLine rc V = (y, V1) ∧ F_X12_ruleLine W = (y, W1) ∧ su_R V1 W1 ∧ (y = 0 ∨ (y = 1 ∧ V1 rc 0 = V rc 0 + 1 ∧ V1 rc 0 = W1 90 32 ∧ V1 rc 0 ≤ 10 ∧ V 3 2 + 1 ≤ V1 3 2)) := by
  obtain ⟨y, V1, a1, a2⟩ := sr_hd hr h hz h10
  rw [sr_read_eq]
  simp only [pf_call]
  rw [a1]
  dsimp only
  rcases a2 with ⟨a2, W1, a3, a4⟩ | ⟨a2, a3, a4, a5, a6, k, W1, a7, a8⟩
  · subst a2
    rw [if_neg (fun q => q rfl)]
    exact ⟨0, V1, W1, rfl, a3, a4, Or.inl rfl⟩
  · subst a2
    rw [if_pos (by decide), a7]
    have l := a8.2.ln
    obtain ⟨y, V2, W2, b1, b2, b3, b4⟩ := sr_loop hr V W (y16 := W 90 32) (kk := k) (by omega) (500 - 0 : Int).toNat 1 0 V1 W1 rfl (Int.le_refl _) (by omega) a8 (Or.inr ⟨rfl, a5⟩) (by omega)
    refine ⟨y, V2, W2, b1, b2, b3, ?_⟩
    rcases b4 with b4 | ⟨b4, b5, b6, b7⟩
    · exact Or.inl b4
    · exact Or.inr ⟨b4, by omega, by omega, by omega, by omega⟩
