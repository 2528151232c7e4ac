theorem sr_end0 {rc : Nat} {V : pm_M} (h : V 3 1 = 0) : F_X3_readLine rc V = (0, V) := by
  rw [sr_read_eq, F_X3_readHead_eq]
  simp only [pf_call, c_isWord]
  have n : ∀ c : Int, ¬ (V 3 1 = 1 ∧ V 3 3 = c) := fun c q => by
    have := q.1
    omega
  rw [if_neg (n 1667329132)]
  simp only [if_pos, not_true_eq_false, if_false]
/-- the class's and the reference's readers of rules, by their loops -/
noncomputable def sr_C (rc : Nat) (V0 : pm_M) : Int × Int × pm_M → (Int × Int × pm_M) ⊕ (Int × pm_M) := fun q => match q with | (x31, x33, V35) => (if 500 ≤ x33 then (if x31 = 0 then .inr (V35 3 2, V35) else .inr ((-1), V35)) else (if x31 = 0 then (if x31 = 0 then .inr (V35 3 2, V35) else .inr ((0 : Int), V0)) else (if V35 3 1 = 0 then (if x31 = 0 then .inr ((0 : Int), V0) else .inr ((-1), V35)) else .inl ((F_X3_readLine rc V35).1, x33 + 1, (F_X3_readLine rc V35).2))))
noncomputable def sr_D : pm_M → pm_M ⊕ (Int × pm_M) := fun V42 => (if V42 90 3 = 0 then (if ¬ (V42 90 32 = 0) then .inr ((-1), V42) else .inr (V42 90 4, V42)) else (if ¬ ((F_X12_ruleLine V42).1 = 0) then .inl (F_X12_ruleLine V42).2 else .inr ((F_X12_ruleLine V42).2 90 4, (F_X12_ruleLine V42).2)))
theorem sr_C_eq (rc : Nat) (V0 : pm_M) : F_X3_read rc V0 = pf_call (F_X2_clear rc (pm_up V0 72 1 (rc : Int))) fun _ V2 => pf_call (F_X9_begin V2) fun _ V11 => pf_call (F_X3_readLine rc V11) fun y23 V20 => pf_val ((0 : Int), V0) (sr_C rc V0) (y23, 0, V20) := rfl
theorem sr_D_eq (W : pm_M) : F_X12_rulesFault W = pf_val ((0 : Int), W) sr_D (F_X12_leads (pm_up (pm_up (pm_up W 90 32 0) 90 33 0) 90 2 0)).2 := rfl
theorem sr_C0 {rc : Nat} {D V : pm_M} {k : Int} : sr_C rc D (0, k, V) = .inr (V 3 2, V) := by
  unfold sr_C
  by_cases q : 500 ≤ k
  · simp only [if_pos q, if_true]
  · simp only [if_neg q, if_true]
theorem sr_all {rc : Nat} (hr : 4 ≤ rc) (D1 D2 D3 : pm_M) : ∀ (N : Nat) (k : Int) (V W : pm_M), (500 - k).toNat = N → 0 ≤ k → k ≤ V 3 2 → su_R V W → V rc 0 = W 90 32 → 1 ≤ V rc 0 → V rc 0 ≤ 10 → ∃ y V1 W1, pf_val ((0 : Int), D1) (sr_C rc D2) (1, k, V) = (y, V1) ∧ pf_val ((0 : Int), D3) sr_D W = (y, W1) ∧ sm_T V1 W1 ∧ -1 ≤ y ∧ (y = -1 → V1 rc 0 = W1 90 32 ∧ 1 ≤ V1 rc 0 ∧ V1 rc 0 ≤ 10) := by
  intro N
  induction N using Nat.strongRecOn with
  | _ N ih =>
  intro k V W hN k0 kp h hz h1 h10
  have ll := h.2.ln
  have ff := h.2.flat.2.2.2.2.1
  by_cases e : V 3 1 = 0
  · have e1 := ff.mp e
    have ec : sr_C rc D2 (1, k, V) = .inr (-1, V) := by
      unfold sr_C
      by_cases q : 500 ≤ k
      · simp only [if_pos q, if_neg (show ¬ ((1 : Int) = 0) by decide)]
      · simp only [if_neg q, if_neg (show ¬ ((1 : Int) = 0) by decide), if_pos e]
    have er : sr_D W = .inr (-1, W) := by
      unfold sr_D
      rw [if_pos e1, if_pos (show ¬ (W 90 32 = 0) by omega)]
    rw [pf_val_inr ec, pf_val_inr er]
    exact ⟨-1, V, W, rfl, rfl, h.1, by decide, fun _ => ⟨hz, h1, h10⟩⟩
  · have e1 : ¬ W 90 3 = 0 := fun q => e (ff.mpr q)
    have l := su_len h e
    have t := h.1.2.2.1
    obtain ⟨y, V1, W1, a1, a2, a3, a4⟩ := sr_line hr h hz h10
    have ec : sr_C rc D2 (1, k, V) = .inl (y, k + 1, V1) := by
      unfold sr_C
      simp only [if_neg (show ¬ 500 ≤ k by omega), if_neg (show ¬ ((1 : Int) = 0) by decide), if_neg e, a1]
    have er : sr_D W = (if ¬ (y = 0) then .inl W1 else .inr (W1 90 4, W1)) := by
      unfold sr_D
      rw [if_neg e1, a2]
    rw [pf_val_inl ec]
    have l1 := a3.2.ln
    rcases a4 with a4 | ⟨a4, a5, a6, a7, a8⟩
    · subst a4
      rw [if_neg (fun q => q rfl)] at er
      rw [pf_val_inr sr_C0, pf_val_inr er]
      exact ⟨V1 3 2, V1, W1, rfl, by rw [l1.1], a3.1, by omega, fun q => by omega⟩
    · subst a4
      rw [if_pos (by decide)] at er
      rw [pf_val_inl er]
      exact ih (500 - (k + 1)).toNat (by omega) (k + 1) V1 W1 rfl (by omega) (by omega) a3 a6 (by omega) a7
/-- THE TWO READERS OF RULES answer alike -/
theorem sr_fault {rc : Nat} (hr : 4 ≤ rc) {V W : pm_M} (hT : sm_T V W) : ∃ y V1 W1, F_X3_read rc V = (y, V1) ∧ F_X12_rulesFault W = (y, W1) ∧ sm_T V1 W1 ∧ -1 ≤ y ∧ (y = -1 → V1 rc 0 = W1 90 32 ∧ 1 ≤ V1 rc 0 ∧ V1 rc 0 ≤ 10) := by
  rw [sr_C_eq, sr_D_eq]
  simp only [pf_call, F_X2_clear_eq, F_X9_begin_eq]
  obtain ⟨X, hX⟩ : ∃ X, X = pm_up (pm_up (pm_up (pm_up V 72 1 (rc : Int)) rc 0 0) rc 5 0) 3 4 0 := ⟨_, rfl⟩
  obtain ⟨Y, hY⟩ : ∃ Y, Y = pm_up (pm_up (pm_up W 90 32 0) 90 33 0) 90 2 0 := ⟨_, rfl⟩
  rw [← hX, ← hY]
  have x1 : X 1 = V 1 := by rw [hX, pm_up_f (by decide), pm_up_f (by omega), pm_up_f (by omega), pm_up_f (by decide)]
  have x2 : X 2 = V 2 := by rw [hX, pm_up_f (by decide), pm_up_f (by omega), pm_up_f (by omega), pm_up_f (by decide)]
  have x34 : X 3 4 = 0 := by rw [hX, pm_up_s]
  have xr : X rc 0 = 0 := by rw [hX, pm_up_f (by omega), pm_up_i (by decide), pm_up_s]
  have y91 : Y 91 = W 91 := by rw [hY, pm_up_f (by decide), pm_up_f (by decide), pm_up_f (by decide)]
  have y1 : Y 90 1 = W 90 1 := by rw [hY, pm_up_i (by decide), pm_up_i (by decide), pm_up_i (by decide)]
  have y2 : Y 90 2 = 0 := by rw [hY, pm_up_s]
  have y32 : Y 90 32 = 0 := by rw [hY, pm_up_i (by decide), pm_up_i (by decide), pm_up_s]
  have hT1 : sm_T X Y := hT.up x1 x2 y91 y1
  obtain ⟨V1, W1, s1, s2, s3, s4, s5, s6, s7⟩ := sm_step hT1 (by rw [x34, y2]) (by rw [x34]; exact ⟨Int.le_refl _, hT1.2.1⟩)
  rw [s1, s2]
  dsimp only
  have h : su_R V1 W1 := ⟨s5, s6⟩
  have z1 : V1 rc 0 = 0 := by rw [s3 rc (by omega), xr]
  have w1 : W1 90 32 = 0 := by rw [s4.2 32 (by decide) (by decide) (by decide) (by decide), y32]
  have ll := h.2.ln
  have ff := h.2.flat.2.2.2.2.1
  by_cases e : V1 3 1 = 0
  · rw [sr_end0 e]
    dsimp only
    have er : sr_D W1 = .inr (W1 90 4, W1) := by
      unfold sr_D
      rw [if_pos (ff.mp e), if_neg (show ¬ ¬ (W1 90 32 = 0) by omega)]
    rw [pf_val_inr sr_C0, pf_val_inr er]
    exact ⟨V1 3 2, V1, W1, rfl, by rw [ll.1], s5, by omega, fun q => by omega⟩
  · obtain ⟨y, V2, W2, a1, a2, a3, a4⟩ := sr_line hr h (by rw [z1, w1]) (by omega)
    rw [a1]
    dsimp only
    have er : sr_D W1 = (if ¬ (y = 0) then .inl W2 else .inr (W2 90 4, W2)) := by
      unfold sr_D
      rw [if_neg (fun q => e (ff.mpr q)), a2]
    have l1 := a3.2.ln
    rcases a4 with a4 | ⟨a4, a5, a6, a7, a8⟩
    · subst a4
      rw [if_neg (fun q => q rfl)] at er
      rw [pf_val_inr sr_C0, pf_val_inr er]
      exact ⟨V2 3 2, V2, W2, rfl, by rw [l1.1], a3.1, by omega, fun q => by omega⟩
    · subst a4
      rw [if_pos (by decide)] at er
      rw [pf_val_inl er]
      exact sr_all hr V V W _ 0 V2 W2 rfl (Int.le_refl _) (by omega) a3 a6 (by omega) a7
