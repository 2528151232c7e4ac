/-! THE CODES OF RULES: heights, lines -/
def pm_hv (c : Nat → Int) : Nat → Int
  | 0 => 0
  | k + 1 => if c (2 * k) = 7 then 0 else if c (2 * k) = 0 ∨ c (2 * k) = 1 then pm_hv c k + 1 else if c (2 * k) = 5 ∨ c (2 * k) = 6 then pm_hv c k - 2 else pm_hv c k - 1
def pm_la (c : Nat → Int) : Nat → Int
  | 0 => 0
  | k + 1 => pm_la c k + (if c (2 * k) = 7 then 1 else 0)
def pm_wc (c : Nat → Int) (n : Nat) : Prop := ∀ k, k < n → 0 ≤ pm_hv c k ∧ (2 ≤ c (2 * k) → c (2 * k) ≤ 6 → 2 ≤ pm_hv c k) ∧ (c (2 * k) = 1 → 0 ≤ c (2 * k + 1) ∧ c (2 * k + 1) ≤ 6)
theorem pm_hv_c {c c1 : Nat → Int} {n : Nat} (h : ∀ i, i < 2 * n → c1 i = c i) : pm_hv c1 n = pm_hv c n := by
  induction n with
  | zero => rfl
  | succ n ih =>
    have h1 := ih fun i hi => h i (by omega)
    show (if c1 (2 * n) = 7 then (0 : Int) else if c1 (2 * n) = 0 ∨ c1 (2 * n) = 1 then pm_hv c1 n + 1 else if c1 (2 * n) = 5 ∨ c1 (2 * n) = 6 then pm_hv c1 n - 2 else pm_hv c1 n - 1) = _
    rw [h1, h (2 * n) (by omega)]
    rfl
theorem pm_la_c {c c1 : Nat → Int} {n : Nat} (h : ∀ i, i < 2 * n → c1 i = c i) : pm_la c1 n = pm_la c n := by
  induction n with
  | zero => rfl
  | succ n ih =>
    have h1 := ih fun i hi => h i (by omega)
    show pm_la c1 n + (if c1 (2 * n) = 7 then (1 : Int) else 0) = _
    rw [h1, h (2 * n) (by omega)]
    rfl
theorem pm_wc_c {c c1 : Nat → Int} {n : Nat} (h : ∀ i, i < 2 * n → c1 i = c i) (hw : pm_wc c n) : pm_wc c1 n := by
  intro k hk
  have h1 := hw k hk
  rw [pm_hv_c (c := c) (c1 := c1) (n := k) fun i hi => h i (by omega), h (2 * k) (by omega), h (2 * k + 1) (by omega)]
  exact h1
def pm_cn (f : Nat → Int) : Nat → Int
  | 0 => 0
  | k + 1 => pm_cn f k + (if f k = -1 then 1 else 0)
theorem pm_cn_r (f : Nat → Int) (n : Nat) : 0 ≤ pm_cn f n ∧ pm_cn f n ≤ n := by
  induction n with
  | zero => exact (by decide : (0 : Int) ≤ 0 ∧ (0 : Int) ≤ ((0 : Nat) : Int))
  | succ n ih =>
    show 0 ≤ pm_cn f n + (if f n = -1 then (1 : Int) else 0) ∧ pm_cn f n + (if f n = -1 then (1 : Int) else 0) ≤ ((n + 1 : Nat) : Int)
    split <;> omega
theorem pm_cn_c {f f1 : Nat → Int} {n : Nat} (h : ∀ i, i < n → f1 i = f i) : pm_cn f1 n = pm_cn f n := by
  induction n with
  | zero => rfl
  | succ n ih =>
    have h1 := ih fun i hi => h i (by omega)
    show pm_cn f1 n + (if f1 n = -1 then (1 : Int) else 0) = _
    rw [h1, h n (by omega)]
    rfl
/-- while a sum is read: o brackets open, height h0 and l0 lines at its start; b 0: an operand is due, 1: one has come -/
def pm_SX (V : pm_M) (o h0 l0 b : Int) : Prop := 0 ≤ V 90 33 ∧ 0 ≤ V 90 39 ∧ 0 ≤ h0 ∧ (∀ i : Nat, (i : Int) < V 90 39 → V 109 i = -1 ∨ (2 ≤ V 109 i ∧ V 109 i ≤ 4)) ∧ pm_cn (V 109) (V 90 39).toNat = o ∧ pm_wc (V 107) (V 90 33).toNat ∧ pm_hv (V 107) (V 90 33).toNat + o = h0 + V 90 39 + b ∧ pm_la (V 107) (V 90 33).toNat = l0
theorem pm_SX.cast {V : pm_M} {o h0 l0 b o1 b1 : Int} (h : pm_SX V o h0 l0 b) (e1 : o = o1) (e2 : b = b1) : pm_SX V o1 h0 l0 b1 := by
  subst e1
  subst e2
  exact h
theorem pm_SX.fr {V V1 : pm_M} {o h0 l0 b : Int} (h : pm_SX V o h0 l0 b) (h1 : V1 107 = V 107) (h2 : V1 109 = V 109) (h3 : V1 90 33 = V 90 33) (h4 : V1 90 39 = V 90 39) : pm_SX V1 o h0 l0 b := by
  unfold pm_SX
  rw [h1, h2, h3, h4]
  exact h
theorem pm_SX.pos {V : pm_M} {o h0 l0 b : Int} (h : pm_SX V o h0 l0 b) : 0 ≤ o ∧ o ≤ V 90 39 := by
  have h1 := pm_cn_r (V 109) (V 90 39).toNat
  rw [h.2.2.2.2.1] at h1
  have := h.2.1
  omega
theorem pm_su_start {V : pm_M} {h0 l0 : Int} (hn : 0 ≤ V 90 33) (h : 0 ≤ h0) (hw : pm_wc (V 107) (V 90 33).toNat) (hh : pm_hv (V 107) (V 90 33).toNat = h0) (hl : pm_la (V 107) (V 90 33).toNat = l0) : pm_SX (pm_up V 90 39 0) 0 h0 l0 0 := by
  refine ⟨by rw [pm_up_i (by decide)]; exact hn, by rw [pm_up_s]; exact Int.le_refl _, h, fun i hi => ?_, ?_, ?_, ?_, ?_⟩
  · rw [pm_up_s] at hi
    omega
  · rw [pm_up_s]
    rfl
  · rw [pm_up_i (by decide)]
    exact hw
  · rw [pm_up_i (by decide), pm_up_s]
    show pm_hv (V 107) (V 90 33).toNat + 0 = _
    omega
  · rw [pm_up_i (by decide)]
    exact hl
/-- a wait is laid on the others -/
theorem pm_push {V : pm_M} {o h0 l0 b x : Int} (h : pm_SX V o h0 l0 b) (hx : x = -1 ∨ (2 ≤ x ∧ x ≤ 4)) : pm_SX (pm_up (pm_up V 109 (V 90 39).toNat x) 90 39 (V 90 39 + 1)) (o + (if x = -1 then 1 else 0)) h0 l0 (b - (if x = -1 then 0 else 1)) := by
  obtain ⟨h1, h2, h3, h4, h5, h6, h7, h8⟩ := h
  have e9 : pm_up (pm_up V 109 (V 90 39).toNat x) 90 39 (V 90 39 + 1) 109 = pm_up V 109 (V 90 39).toNat x 109 := pm_up_f (by decide)
  have e7 : pm_up (pm_up V 109 (V 90 39).toNat x) 90 39 (V 90 39 + 1) 107 = V 107 := by rw [pm_up_f (by decide), pm_up_f (by decide)]
  have e33 : pm_up (pm_up V 109 (V 90 39).toNat x) 90 39 (V 90 39 + 1) 90 33 = V 90 33 := by rw [pm_up_i (by decide), pm_up_c (by decide)]
  have en : (V 90 39 + 1).toNat = (V 90 39).toNat + 1 := by omega
  have ec : pm_cn (pm_up V 109 (V 90 39).toNat x 109) (V 90 39).toNat = pm_cn (V 109) (V 90 39).toNat := pm_cn_c fun i hi => pm_up_i (by omega)
  unfold pm_SX
  rw [e9, e7, e33, pm_up_s]
  refine ⟨h1, by omega, h3, fun i hi => ?_, ?_, h6, ?_, h8⟩
  · by_cases hq : i = (V 90 39).toNat
    · rw [hq, pm_up_s]
      exact hx
    · rw [pm_up_i hq]
      exact h4 i (by omega)
  · rw [en]
    show pm_cn (pm_up V 109 (V 90 39).toNat x 109) (V 90 39).toNat + (if pm_up V 109 (V 90 39).toNat x 109 (V 90 39).toNat = -1 then (1 : Int) else 0) = _
    rw [ec, pm_up_s, h5]
  · split <;> omega
/-- the bracket on top is taken -/
theorem pm_popb {V : pm_M} {o h0 l0 b : Int} (h : pm_SX V o h0 l0 b) (hw : 1 ≤ V 90 39) (ht : V 109 (V 90 39 - 1).toNat = -1) : pm_SX (pm_up V 90 39 (V 90 39 - 1)) (o - 1) h0 l0 b := by
  obtain ⟨h1, h2, h3, h4, h5, h6, h7, h8⟩ := h
  have en : (V 90 39).toNat = (V 90 39 - 1).toNat + 1 := by omega
  unfold pm_SX
  rw [pm_up_i (by decide), pm_up_s, pm_up_f (show (109 : Nat) ≠ 90 by decide), pm_up_f (show (107 : Nat) ≠ 90 by decide)]
  refine ⟨h1, by omega, h3, fun i hi => h4 i (by omega), ?_, h6, by omega, h8⟩
  rw [en] at h5
  have h9 : pm_cn (V 109) (V 90 39 - 1).toNat + (if V 109 (V 90 39 - 1).toNat = -1 then (1 : Int) else 0) = o := h5
  rw [ht, if_pos rfl] at h9
  omega
/-- what lays does -/
theorem pm_lys {V V1 : pm_M} {a x : Int} (h0 : 0 ≤ V 90 33) (h : F_X12_lays a x V = (0, V1)) : (∀ k, k ≠ 90 → k ≠ 107 → V1 k = V k) ∧ (∀ i, i ≠ 33 → V1 90 i = V 90 i) ∧ V1 90 33 = V 90 33 + 1 ∧ V1 107 (2 * (V 90 33).toNat) = a ∧ V1 107 (2 * (V 90 33).toNat + 1) = x ∧ ∀ i, i < 2 * (V 90 33).toNat → V1 107 i = V 107 i := by
  rw [F_X12_lays_eq] at h
  have h2 := (Prod.mk.inj h).2
  have n1 : (2 * V 90 33).toNat = 2 * (V 90 33).toNat := by omega
  have n2 : (2 * V 90 33 + 1).toNat = 2 * (V 90 33).toNat + 1 := by omega
  subst h2
  refine ⟨fun k k1 k2 => by rw [pm_up_f k1, pm_up_f k2, pm_up_f k2], fun i hi => by rw [pm_up_i hi, pm_up_c (by decide), pm_up_c (by decide)], pm_up_s, ?_, ?_, fun i hi => ?_⟩
  · rw [pm_up_c (by decide), pm_up_i (by omega), n1, pm_up_s]
  · rw [pm_up_c (by decide), n2, pm_up_s]
  · rw [pm_up_c (by decide), pm_up_i (by omega), pm_up_i (by omega)]
/-- codes, one more of them -/
theorem pm_lys_c {V V1 : pm_M} {a x : Int} (h0 : 0 ≤ V 90 33) (h : F_X12_lays a x V = (0, V1)) (hw : pm_wc (V 107) (V 90 33).toNat) (hp : 0 ≤ pm_hv (V 107) (V 90 33).toNat) (h2 : 2 ≤ a → a ≤ 6 → 2 ≤ pm_hv (V 107) (V 90 33).toNat) (h1 : a = 1 → 0 ≤ x ∧ x ≤ 6) : pm_wc (V1 107) (V1 90 33).toNat ∧ pm_hv (V1 107) (V1 90 33).toNat = (if a = 7 then 0 else if a = 0 ∨ a = 1 then pm_hv (V 107) (V 90 33).toNat + 1 else if a = 5 ∨ a = 6 then pm_hv (V 107) (V 90 33).toNat - 2 else pm_hv (V 107) (V 90 33).toNat - 1) ∧ pm_la (V1 107) (V1 90 33).toNat = pm_la (V 107) (V 90 33).toNat + (if a = 7 then 1 else 0) := by
  obtain ⟨g1, g2, g3, g4, g5, g6⟩ := pm_lys h0 h
  have en : (V1 90 33).toNat = (V 90 33).toNat + 1 := by omega
  have eh := pm_hv_c g6
  have el := pm_la_c g6
  rw [en]
  refine ⟨fun k hk => ?_, ?_, ?_⟩
  · by_cases hq : k = (V 90 33).toNat
    · subst hq
      rw [eh, g4, g5]
      exact ⟨hp, h2, h1⟩
    · exact pm_wc_c g6 hw k (by omega)
  · show (if V1 107 (2 * (V 90 33).toNat) = 7 then (0 : Int) else if V1 107 (2 * (V 90 33).toNat) = 0 ∨ V1 107 (2 * (V 90 33).toNat) = 1 then pm_hv (V1 107) (V 90 33).toNat + 1 else if V1 107 (2 * (V 90 33).toNat) = 5 ∨ V1 107 (2 * (V 90 33).toNat) = 6 then pm_hv (V1 107) (V 90 33).toNat - 2 else pm_hv (V1 107) (V 90 33).toNat - 1) = _
    rw [g4, eh]
  · show pm_la (V1 107) (V 90 33).toNat + (if V1 107 (2 * (V 90 33).toNat) = 7 then (1 : Int) else 0) = _
    rw [g4, el]
/-- an operand is laid -/
theorem pm_su_lay {V V1 : pm_M} {o h0 l0 a x : Int} (h : pm_SX V o h0 l0 0) (e : F_X12_lays a x V = (0, V1)) (ha : a = 0 ∨ (a = 1 ∧ 0 ≤ x ∧ x ≤ 6)) : pm_SX V1 o h0 l0 1 := by
  have hp := h.pos
  obtain ⟨h1, h2, h3, h4, h5, h6, h7, h8⟩ := h
  obtain ⟨q1, q2, q3⟩ := pm_lys_c h1 e h6 (by omega) (fun k1 k2 => by omega) (fun k => by omega)
  obtain ⟨g1, g2, g3, g4, g5, g6⟩ := pm_lys h1 e
  rw [if_neg (by omega), if_pos (by omega)] at q2
  rw [if_neg (by omega)] at q3
  refine ⟨by omega, by rw [g2 39 (by decide)]; exact h2, h3, ?_, ?_, q1, ?_, by omega⟩
  · rw [g1 109 (by decide) (by decide), g2 39 (by decide)]
    exact h4
  · rw [g1 109 (by decide) (by decide), g2 39 (by decide)]
    exact h5
  · rw [q2, g2 39 (by decide)]
    omega
theorem r_rank (b : Int) (V : pm_M) : ∃ y, F_X12_rank b V = (y, V) ∧ (2 ≤ b → b ≤ 4 → 1 ≤ y) := by
  rw [F_X12_rank_eq]
  repeat' split
  all_goals exact ⟨_, rfl, fun _ _ => by omega⟩
/-- empties -/
theorem pm_sa_empt {V V1 : pm_M} {o h0 l0 r : Int} (h : pm_SX V o h0 l0 1) (e : F_X12_empties r V = (0, V1)) : pm_SX V1 o h0 l0 1 ∧ V1 90 33 + V1 90 39 = V 90 33 + V 90 39 ∧ (r = 1 → V1 90 39 = 0 ∨ (1 ≤ V1 90 39 ∧ V1 109 (V1 90 39 - 1).toNat = -1)) ∧ (∀ k, k ≠ 90 → k ≠ 107 → V1 k = V k) ∧ ∀ i, i ≠ 33 → i ≠ 39 → V1 90 i = V 90 i := by
  rw [F_X12_empties_eq] at e
  have key : ∀ W : pm_M, (pm_SX W o h0 l0 1 ∧ W 90 33 + W 90 39 = V 90 33 + V 90 39 ∧ (∀ k, k ≠ 90 → k ≠ 107 → W k = V k) ∧ ∀ i, i ≠ 33 → i ≠ 39 → W 90 i = V 90 i) → ∀ {d : Int × pm_M} {b : pm_M → pm_M ⊕ (Int × pm_M)}, (∀ W, b W = (if W 90 39 ≤ 0 then .inr (0, W) else if W 109 (W 90 39 - 1).toNat = -1 then .inr (0, W) else if (F_X12_rank (W 109 (W 90 39 - 1).toNat) W).1 < r then .inr (0, W) else .inl (F_X12_lays (W 109 (W 90 39 - 1).toNat) 0 (pm_up W 90 39 (W 90 39 - 1))).2)) → ∃ V2, pf_val d b W = (0, V2) ∧ pm_SX V2 o h0 l0 1 ∧ V2 90 33 + V2 90 39 = V 90 33 + V 90 39 ∧ (r = 1 → V2 90 39 = 0 ∨ (1 ≤ V2 90 39 ∧ V2 109 (V2 90 39 - 1).toNat = -1)) ∧ (∀ k, k ≠ 90 → k ≠ 107 → V2 k = V k) ∧ ∀ i, i ≠ 33 → i ≠ 39 → V2 90 i = V 90 i := by
    intro W hW d b hb
    refine pf_val_ind2 (fun (W : pm_M) => pm_SX W o h0 l0 1 ∧ W 90 33 + W 90 39 = V 90 33 + V 90 39 ∧ (∀ k, k ≠ 90 → k ≠ 107 → W k = V k) ∧ ∀ i, i ≠ 33 → i ≠ 39 → W 90 i = V 90 i) (fun (z : Int × pm_M) => ∃ V2, z = (0, V2) ∧ pm_SX V2 o h0 l0 1 ∧ V2 90 33 + V2 90 39 = V 90 33 + V 90 39 ∧ (r = 1 → V2 90 39 = 0 ∨ (1 ≤ V2 90 39 ∧ V2 109 (V2 90 39 - 1).toNat = -1)) ∧ (∀ k, k ≠ 90 → k ≠ 107 → V2 k = V k) ∧ ∀ i, i ≠ 33 → i ≠ 39 → V2 90 i = V 90 i) (fun W => (W 90 39).toNat) ?_ W hW
    rintro W ⟨w1, w2, w3, w4⟩
    rw [hb]
    have hw0 := w1.2.1
    by_cases c1 : W 90 39 ≤ 0
    · rw [if_pos c1]
      exact Or.inr ⟨_, rfl, W, rfl, w1, w2, fun _ => Or.inl (by omega), w3, w4⟩
    · rw [if_neg c1]
      by_cases c2 : W 109 (W 90 39 - 1).toNat = -1
      · rw [if_pos c2]
        exact Or.inr ⟨_, rfl, W, rfl, w1, w2, fun _ => Or.inr ⟨by omega, c2⟩, w3, w4⟩
      · rw [if_neg c2]
        have hop : 2 ≤ W 109 (W 90 39 - 1).toNat ∧ W 109 (W 90 39 - 1).toNat ≤ 4 := by
          rcases w1.2.2.2.1 (W 90 39 - 1).toNat (by omega) with k | k
          · exact absurd k c2
          · exact k
        obtain ⟨y, y1, y2⟩ := r_rank (W 109 (W 90 39 - 1).toNat) W
        rw [y1]
        by_cases c3 : y < r
        · rw [if_pos c3]
          exact Or.inr ⟨_, rfl, W, rfl, w1, w2, fun k => by have := y2 hop.1 hop.2; omega, w3, w4⟩
        · rw [if_neg c3]
          refine Or.inl ⟨_, rfl, ?_⟩
          obtain ⟨V2, e2⟩ : ∃ V2, F_X12_lays (W 109 (W 90 39 - 1).toNat) 0 (pm_up W 90 39 (W 90 39 - 1)) = (0, V2) := by rw [F_X12_lays_eq]; exact ⟨_, rfl⟩
          rw [e2]
          obtain ⟨h1, h2, h3, h4, h5, h6, h7, h8⟩ := w1
          have e33 : pm_up W 90 39 (W 90 39 - 1) 90 33 = W 90 33 := pm_up_i (by decide)
          have e107 : pm_up W 90 39 (W 90 39 - 1) 107 = W 107 := pm_up_f (by decide)
          have e109 : pm_up W 90 39 (W 90 39 - 1) 109 = W 109 := pm_up_f (by decide)
          have en : (W 90 39).toNat = (W 90 39 - 1).toNat + 1 := by omega
          have h5' : pm_cn (W 109) (W 90 39 - 1).toNat = o := by
            rw [en] at h5
            have h9 : pm_cn (W 109) (W 90 39 - 1).toNat + (if W 109 (W 90 39 - 1).toNat = -1 then (1 : Int) else 0) = o := h5
            rw [if_neg c2] at h9
            omega
          have hcn := pm_cn_r (W 109) (W 90 39 - 1).toNat
          have hn0 : 0 ≤ pm_up W 90 39 (W 90 39 - 1) 90 33 := by rw [e33]; exact h1
          obtain ⟨q1, q2, q3⟩ := pm_lys_c hn0 e2 (by rw [e33, e107]; exact h6) (by rw [e33, e107]; omega) (fun _ _ => by rw [e33, e107]; omega) (fun k => by omega)
          obtain ⟨g1, g2, g3, g4, g5, g6⟩ := pm_lys hn0 e2
          rw [e33, e107, if_neg (by omega), if_neg (by omega), if_neg (by omega)] at q2
          rw [e33, e107, if_neg (by omega)] at q3
          have e39 : V2 90 39 = W 90 39 - 1 := by rw [g2 39 (by decide), pm_up_s]
          have f109 : V2 109 = W 109 := by rw [g1 109 (by decide) (by decide), e109]
          show (pm_SX V2 o h0 l0 1 ∧ V2 90 33 + V2 90 39 = V 90 33 + V 90 39 ∧ (∀ k, k ≠ 90 → k ≠ 107 → V2 k = V k) ∧ ∀ i, i ≠ 33 → i ≠ 39 → V2 90 i = V 90 i) ∧ (V2 90 39).toNat < (W 90 39).toNat
          refine ⟨⟨⟨by omega, by omega, h3, ?_, ?_, q1, ?_, by omega⟩, by omega, fun k k1 k2 => ?_, fun i i1 i2 => ?_⟩, ?_⟩
          · rw [f109, e39]
            exact fun i hi => h4 i (by omega)
          · rw [f109, e39]
            exact h5'
          · rw [q2, e39]
            omega
          · rw [g1 k k1 k2, pm_up_f k1]
            exact w3 k k1 k2
          · rw [g2 i i1, pm_up_i i2]
            exact w4 i i1 i2
          · show (V2 90 39).toNat < (W 90 39).toNat
            omega
  obtain ⟨V2, v1, v2⟩ := key V ⟨h, rfl, fun _ _ _ => rfl, fun _ _ _ => rfl⟩ (fun W => rfl)
  have e3 : (0, V1) = ((0 : Int), V2) := e.symm.trans v1
  have e4 := (Prod.mk.inj e3).2
  subst e4
  exact v2
theorem pm_su_end {V : pm_M} {h0 l0 : Int} (h : pm_SX V 0 h0 l0 1) (ht : V 90 39 = 0 ∨ (1 ≤ V 90 39 ∧ V 109 (V 90 39 - 1).toNat = -1)) : pm_wc (V 107) (V 90 33).toNat ∧ pm_hv (V 107) (V 90 33).toNat = h0 + 1 ∧ pm_la (V 107) (V 90 33).toNat = l0 := by
  obtain ⟨h1, h2, h3, h4, h5, h6, h7, h8⟩ := h
  rcases ht with ht | ⟨ht1, ht2⟩
  · exact ⟨h6, by omega, h8⟩
  · exfalso
    have en : (V 90 39).toNat = (V 90 39 - 1).toNat + 1 := by omega
    rw [en] at h5
    have h9 : pm_cn (V 109) (V 90 39 - 1).toNat + (if V 109 (V 90 39 - 1).toNat = -1 then (1 : Int) else 0) = 0 := h5
    rw [ht2, if_pos rfl] at h9
    have := pm_cn_r (V 109) (V 90 39 - 1).toNat
    omega
/-- codes of height h, l lines -/
def pm_RX (V : pm_M) (h l : Int) : Prop := pm_wc (V 107) (V 90 33).toNat ∧ pm_hv (V 107) (V 90 33).toNat = h ∧ pm_la (V 107) (V 90 33).toNat = l
theorem pm_RX.fr {V V1 : pm_M} {h l : Int} (k : pm_RX V h l) (h1 : V1 107 = V 107) (h2 : V1 90 33 = V 90 33) : pm_RX V1 h l := by
  unfold pm_RX
  rw [h1, h2]
  exact k
theorem pm_RX.lay {V V1 : pm_M} {h l a x : Int} (k : pm_RX V h l) (h0 : 0 ≤ V 90 33) (e : F_X12_lays a x V = (0, V1)) (hp : 2 ≤ h) (ha : a = 5 ∨ a = 6) : pm_RX V1 (h - 2) l := by
  obtain ⟨k1, k2, k3⟩ := k
  obtain ⟨q1, q2, q3⟩ := pm_lys_c h0 e k1 (by omega) (fun _ _ => by omega) (fun _ => by omega)
  rw [if_neg (by omega), if_neg (by omega), if_pos ha, k2] at q2
  rw [if_neg (by omega), k3] at q3
  exact ⟨q1, q2, by omega⟩
theorem pm_RX.last {V V1 : pm_M} {h l x : Int} (k : pm_RX V h l) (h0 : 0 ≤ V 90 33) (e : F_X12_lays 7 x V = (0, V1)) (hp : 0 ≤ h) : pm_RX V1 0 (l + 1) := by
  obtain ⟨k1, k2, k3⟩ := k
  obtain ⟨q1, q2, q3⟩ := pm_lys_c h0 e k1 (by omega) (fun _ _ => by omega) (fun _ => by omega)
  rw [if_pos rfl] at q2 q3
  exact ⟨q1, q2, by omega⟩
/-- between lines -/
def pm_RLn (V : pm_M) : Prop := pm_RX V 0 (V 90 32)
theorem pm_RLn.fr {V V1 : pm_M} (k : pm_RLn V) (h1 : V1 90 32 = V 90 32) (h2 : V1 90 33 = V 90 33) (h3 : V1 107 = V 107) : pm_RLn V1 := by
  unfold pm_RLn
  rw [h1]
  exact pm_RX.fr k h3 h2
def pm_rw (V : pm_M) : Prop := pm_wc (V 107) (V 90 33).toNat ∧ 0 ≤ pm_hv (V 107) (V 90 33).toNat
theorem pm_rw.fr {V V1 : pm_M} (k : pm_rw V) (h2 : V1 90 33 = V 90 33) (h3 : V1 107 = V 107) : pm_rw V1 := by
  unfold pm_rw
  rw [h2, h3]
  exact k
/-- the rules that are kept -/
def pm_r1 (V : pm_M) : Prop := ∃ n : Nat, n ≤ 500 ∧ pm_wc (V 108) n ∧ pm_la (V 108) n = V 90 35
theorem pm_r1.fr {V V1 : pm_M} (k : pm_r1 V) (h2 : V1 90 35 = V 90 35) (h3 : V1 108 = V 108) : pm_r1 V1 := by
  unfold pm_r1
  rw [h2, h3]
  exact k
