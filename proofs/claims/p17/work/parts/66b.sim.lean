/-- but for cell 90's places 2 to 5 and 37 -/
def tk_g9 (V V1 : pm_M) : Prop := (∀ k, k ≠ 90 → V1 k = V k) ∧ ∀ i, i ≠ 2 → i ≠ 3 → i ≠ 4 → i ≠ 5 → i ≠ 37 → V1 90 i = V 90 i
theorem tk_f9.g {V V1 : pm_M} (h : tk_f9 V V1) : tk_g9 V V1 := ⟨h.1, fun i a b c d _ => h.2 i a b c d⟩
theorem tk_g9.tr {V V1 V2 : pm_M} (h : tk_g9 V V1) (h2 : tk_g9 V1 V2) : tk_g9 V V2 := ⟨fun k hk => (h2.1 k hk).trans (h.1 k hk), fun i a b c d e => (h2.2 i a b c d e).trans (h.2 i a b c d e)⟩
/-- the sounds that were told -/
def sm_S1 (sc : Nat) (V W : pm_M) : Prop := V sc 0 = W 90 6 ∧ 0 ≤ V sc 0 ∧ V sc 0 ≤ 9 ∧ ∀ j : Nat, (j : Int) < V sc 0 → V 70 j = W 92 j ∧ V (sc + 1) j = W 93 (3 * j) ∧ V (sc + 2) j = W 93 (3 * j + 1) ∧ V (sc + 3) j = W 93 (3 * j + 2) ∧ V 71 j = W 94 j ∧ 1 ≤ V (sc + 3) j ∧ 0 ≤ V 71 j ∧ V 71 j ≤ 1 ∧ 0 ≤ V (sc + 1) j ∧ V (sc + 1) j ≤ 99 ∧ 0 ≤ V (sc + 2) j ∧ V (sc + 2) j ≤ 99
def sm_S2 (sc : Nat) (V W : pm_M) : Prop := (W 95 0 = -1 ∧ V sc 4 = 0) ∨ (1 ≤ W 95 0 ∧ V sc 4 = W 95 0 ∧ V sc 5 = W 95 1)
def sm_S3 (sc : Nat) (V W : pm_M) : Prop := (W 95 2 = -1 ∧ V sc 6 = 0) ∨ (1 ≤ W 95 2 ∧ V sc 6 = W 95 2 ∧ V sc 7 = W 95 3)
def sm_S4 (sc : Nat) (V W : pm_M) : Prop := (W 90 11 = -1 ∧ V 69 4 = 0 ∧ V sc 8 = 16 ∧ V sc 9 = 99) ∨ (0 ≤ W 90 11 ∧ 1 ≤ W 90 12 ∧ V 69 4 = 1 ∧ V sc 8 = W 90 11 ∧ V sc 9 = W 90 12)
def sm_S5 (sc : Nat) (V W : pm_M) : Prop := V sc 10 = W 90 13 ∧ 0 ≤ V sc 10 ∧ V sc 10 ≤ 12 ∧ ∀ k : Nat, (k : Int) < V sc 10 → V (sc + 4) k = W 96 (3 * k) * 10 + W 96 (3 * k + 1) ∧ V (sc + 5) k = W 96 (3 * k + 2) ∧ 0 ≤ W 96 (3 * k) ∧ W 96 (3 * k) < V sc 0 ∧ 0 ≤ W 96 (3 * k + 1) ∧ W 96 (3 * k + 1) < V sc 0 ∧ 0 ≤ W 96 (3 * k + 2) ∧ W 96 (3 * k + 2) < V sc 0
def sm_S (sc : Nat) (V W : pm_M) : Prop := sm_S1 sc V W ∧ sm_S2 sc V W ∧ sm_S3 sc V W ∧ sm_S4 sc V W ∧ sm_S5 sc V W
theorem sm_S.st {sc : Nat} {V W V1 W1 : pm_M} (hsc : sc = 45 ∨ sc = 51) (h : sm_S sc V W) (h1 : ∀ k, k ≠ 3 → k ≠ 69 → V1 k = V k) (h4 : V1 69 4 = V 69 4) (h2 : tk_g9 W W1) : sm_S sc V1 W1 := by
  unfold sm_S sm_S1 sm_S2 sm_S3 sm_S4 sm_S5
  rw [h1 sc (by omega) (by omega), h1 (sc + 1) (by omega) (by omega), h1 (sc + 2) (by omega) (by omega), h1 (sc + 3) (by omega) (by omega), h1 (sc + 4) (by omega) (by omega), h1 (sc + 5) (by omega) (by omega), h1 70 (by decide) (by decide), h1 71 (by decide) (by decide), h4, h2.1 92 (by decide), h2.1 93 (by decide), h2.1 94 (by decide), h2.1 95 (by decide), h2.1 96 (by decide), h2.2 6 (by decide) (by decide) (by decide) (by decide) (by decide), h2.2 11 (by decide) (by decide) (by decide) (by decide) (by decide), h2.2 12 (by decide) (by decide) (by decide) (by decide) (by decide), h2.2 13 (by decide) (by decide) (by decide) (by decide) (by decide)]
  exact h
theorem sl_closes {sc : Nat} {V W : pm_M} (hT : sm_T V W) (hK : sm_K V W) : ∃ y V1 W1, F_X6_closes sc V = (y, V1) ∧ F_X12_closes W = (y, W1) ∧ (y = 0 ∨ y = 1) ∧ (∀ k, k ≠ 3 → V1 k = V k) ∧ tk_g9 W W1 ∧ sm_T V1 W1 ∧ sm_K V1 W1 ∧ V 3 2 ≤ V1 3 2 := by
  obtain ⟨y, c1, r1, h⟩ := sm_sign (c := 59) hK (by decide)
  rw [F_X6_closes_eq, F_X12_closes_eq]
  simp only [pf_let, pf_call, c1, r1]
  rcases h with h | ⟨h, -, -⟩
  · subst h
    exact ⟨0, V, W, rfl, rfl, Or.inl rfl, fun _ _ => rfl, ⟨fun _ _ => rfl, fun _ _ _ _ _ _ => rfl⟩, hT, hK, Int.le_refl _⟩
  · subst h
    obtain ⟨V1, W1, c2, r2, c3, r3, t1, k1, p1⟩ := sm_nx hT hK
    have f := hK.ln
    rw [c2, r2]
    exact ⟨1, V1, W1, rfl, rfl, Or.inr rfl, c3, r3.g, t1, k1, by omega⟩
/-- two numbers in one order on both sides -/
theorem sl_nums {sc : Nat} {V W : pm_M} {a b c d : Int} (hT : sm_T V W) (hK : sm_K V W) (hb : b ≤ 9999) (hd : d ≤ 9999) : ∃ W1, F_X12_leads W = (0, W1) ∧
    ((∃ V1, F_X6_readNumbers sc a b c d V = (0, V1) ∧ F_X12_number a b W1 = (0, W1) ∧ sm_T V1 W1 ∧ sm_K V1 W1) ∨
     (∃ W2, F_X12_number a b W1 = (1, W2) ∧ ((∃ V2, F_X6_readNumbers sc a b c d V = (0, V2) ∧ F_X12_number c d W2 = (0, W2) ∧ sm_T V2 W2 ∧ sm_K V2 W2) ∨
       (∃ V3 W3, F_X6_readNumbers sc a b c d V = (1, V3) ∧ F_X12_number c d W2 = (1, W3) ∧ V3 69 5 = W2 90 37 ∧ a ≤ W2 90 37 ∧ W2 90 37 ≤ b ∧ V3 69 6 = W3 90 37 ∧ c ≤ W3 90 37 ∧ W3 90 37 ≤ d ∧ (∀ k, k ≠ 3 → k ≠ 69 → V3 k = V k) ∧ V3 69 4 = V 69 4 ∧ tk_g9 W W3 ∧ sm_T V3 W3 ∧ sm_K V3 W3 ∧ V 3 4 ≤ V3 3 2)))) := by
  obtain ⟨V1, W1, c1, r1, c2, r2, t1, k1, p1⟩ := sm_nx hT hK
  have f1 := k1.ln
  refine ⟨W1, r1, ?_⟩
  rw [F_X6_readNumbers_eq]
  simp only [pf_let, pf_call, c1]
  rcases sm_number (a := a) (b := b) t1 k1 hb with ⟨n1, n2⟩ | ⟨v, X1, W2, v1, v2, v3, n1, n2, n3, n4, n5, n6, n7, t2, k2⟩
  · rw [n1]
    exact Or.inl ⟨V1, rfl, n2, t1, k1⟩
  · refine Or.inr ⟨W2, n3, ?_⟩
    have g2 : tk_g9 W1 W2 := ⟨n6, n7⟩
    -- the class steps from a world with 69 5 told
    have t1' : sm_T (pm_up V1 69 5 (V1 3 3)) (pm_up W1 90 37 v) := t1.up (pm_up_f (by decide)) (pm_up_f (by decide)) (pm_up_f (by decide)) (pm_up_i (by decide))
    have k1' : sm_K (pm_up V1 69 5 (V1 3 3)) (pm_up W1 90 37 v) := k1.up (pm_up_f (by decide)) (pm_up_f (by decide)) (pm_up_i (by decide)) (pm_up_i (by decide)) (pm_up_i (by decide)) (pm_up_i (by decide))
    obtain ⟨X2, Y2, c3, r3, c4, r4, t3, k3, p3⟩ := sm_nx t1' k1'
    -- the same place and text: W2 and Y2 hold one token
    have k22 : sm_K X2 W2 ∧ sm_T X2 W2 := by
      obtain ⟨Z1, Z2, d1, d2, d3, d4, d5, d6, d7⟩ := sm_nx (V := pm_up V1 69 5 (V1 3 3)) (W := W1) (t1.up (pm_up_f (by decide)) (pm_up_f (by decide)) rfl rfl) (k1.up (pm_up_f (by decide)) (pm_up_f (by decide)) rfl rfl rfl rfl)
      rw [c3] at d1
      have e1 := (Prod.mk.inj d1).2
      subst e1
      -- number's leads starts from W1 with 90 37 told
      have hn : F_X12_number a b W1 = (1, Y2) := by
        rw [F_X12_number_eq]
        have h5 : W1 90 3 = 2 := by
          by_cases q : W1 90 3 = 2
          · exact q
          · exfalso
            rw [F_X12_number_eq] at n3
            simp only [pf_let] at n3
            rw [if_pos q] at n3
            exact absurd (Prod.mk.inj n3).1 (by decide)
        have h6 := k1.flat.2.2.2.1 (k1.flat.2.2.1.mpr h5)
        simp only [pf_let, pf_call, pm_cmp_lt0, pm_cmp_le0]
        rw [if_neg (fun q => q h5), if_neg (show ¬ W1 90 5 < a by omega), if_pos (show W1 90 5 ≤ b by omega), show W1 90 5 = v by omega, r3]
      rw [n3] at hn
      have e2 := (Prod.mk.inj hn).2
      subst e2
      exact ⟨k3, t3⟩
    obtain ⟨k2', t2'⟩ := k22
    have f2 := k2'.ln
    rw [n1]
    simp only []
    rw [if_pos (show ¬ ((1 : Int) = 0) by decide), c3]
    simp only []
    rcases sm_number (a := c) (b := d) t2' k2' hd with ⟨m1, m2⟩ | ⟨w, X3, W3, w1, w2, w3, m1, m2, m3, m4, m5, m6, m7, t4, k4⟩
    · rw [m1]
      exact Or.inl ⟨X2, rfl, m2, t2', k2'⟩
    · refine Or.inr ?_
      rw [m1]
      simp only []
      rw [if_pos (show ¬ ((1 : Int) = 0) by decide)]
      -- the last step, with 69 6 told
      obtain ⟨Z1, Z2, d1, d2, d3, d4, d5, d6, d7⟩ := sm_nx (V := pm_up X2 69 6 (X2 3 3)) (W := pm_up W2 90 37 w) (t2'.up (pm_up_f (by decide)) (pm_up_f (by decide)) (pm_up_f (by decide)) (pm_up_i (by decide))) (k2'.up (pm_up_f (by decide)) (pm_up_f (by decide)) (pm_up_i (by decide)) (pm_up_i (by decide)) (pm_up_i (by decide)) (pm_up_i (by decide)))
      have hn : F_X12_number c d W2 = (1, Z2) := by
        rw [F_X12_number_eq]
        have h5 : W2 90 3 = 2 := by
          by_cases q : W2 90 3 = 2
          · exact q
          · exfalso
            rw [F_X12_number_eq] at m3
            simp only [pf_let] at m3
            rw [if_pos q] at m3
            exact absurd (Prod.mk.inj m3).1 (by decide)
        have h6 := k2'.flat.2.2.2.1 (k2'.flat.2.2.1.mpr h5)
        simp only [pf_let, pf_call, pm_cmp_lt0, pm_cmp_le0]
        rw [if_neg (fun q => q h5), if_neg (show ¬ W2 90 5 < c by omega), if_pos (show W2 90 5 ≤ d by omega), show W2 90 5 = w by omega, d2]
      rw [m3] at hn
      have e2 := (Prod.mk.inj hn).2
      subst e2
      have g3 : tk_g9 W2 W3 := ⟨m6, m7⟩
      rw [d1]
      have q1 : pm_up X2 69 6 (X2 3 3) 3 = X2 3 := pm_up_f (by decide)
      have q2 : pm_up V1 69 5 (V1 3 3) 3 = V1 3 := pm_up_f (by decide)
      rw [q1] at d7
      rw [q2] at p3
      refine ⟨Z1, W3, rfl, m3, ?_, by omega, by omega, ?_, by omega, by omega, fun k h3 h69 => ?_, ?_, (r2.g.tr g2).tr g3, d5, d6, by omega⟩
      · rw [d3 69 (by decide), pm_up_i (by decide), c4 69 (by decide), pm_up_s, n4, v3]
      · rw [d3 69 (by decide), pm_up_s, m4, w3]
      · rw [d3 k h3, pm_up_f h69, c4 k h3, pm_up_f h69, c2 k h3]
      · rw [d3 69 (by decide), pm_up_i (by decide), c4 69 (by decide), pm_up_i (by decide), c2 69 (by decide)]
