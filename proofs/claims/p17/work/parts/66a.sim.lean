/-! THE TWO READERS GO ON ALIKE -/
theorem tk_pk_c {T T1 : Nat → Int} {q m : Nat} (h : ∀ i, q ≤ i → i < q + m → T1 i = T i) : tk_pk T1 q m = tk_pk T q m := by
  induction m with
  | zero => rfl
  | succ m ih =>
    show pm_lorV (pm_lshlV (tk_pk T1 q m) 8) (T1 (q + m)) = pm_lorV (pm_lshlV (tk_pk T q m) 8) (T (q + m))
    rw [ih fun i h1 h2 => h i h1 (by omega), h (q + m) (by omega) (by omega)]
theorem tk_nm_c {T T1 : Nat → Int} {q m : Nat} (h : ∀ i, q ≤ i → i < q + m → T1 i = T i) : tk_nm T1 q m = tk_nm T q m := by
  induction m with
  | zero => rfl
  | succ m ih =>
    show min (10 * tk_nm T1 q m + T1 (q + m) - 48) 100000 = min (10 * tk_nm T q m + T (q + m) - 48) 100000
    rw [ih fun i h1 h2 => h i h1 (by omega), h (q + m) (by omega) (by omega)]
theorem TK_c {T T1 : Nat → Int} {n p s a q e : Int} (hp : 0 ≤ p) (h : TK T n p s a q e) (hT : ∀ i : Nat, (i : Int) < n → T1 i = T i) : TK T1 n p s a q e := by
  have hl := TK_le h
  obtain ⟨h1, h2, h3⟩ := h
  refine ⟨h1, fun i i1 i2 => by rw [hT i (by omega)]; exact h2 i i1 i2, ?_⟩
  rcases h3 with ⟨a1, a2, a3, a4⟩ | ⟨a1, a2, a3, a4, a5, a6, a7, a8⟩ | ⟨a1, a2, a3, a4, a5, a6, a7, a8⟩ | ⟨a1, a2, a3, a4, a5, a6, a7⟩
  · exact Or.inl ⟨a1, a2, a3, a4⟩
  · refine Or.inr (Or.inl ⟨a1, by rw [hT _ (by omega)]; exact a2, a3, a4, a5, fun i i1 i2 => by rw [hT i (by omega)]; exact a6 i i1 i2, ?_, ?_⟩)
    · by_cases c : e = n
      · exact Or.inl c
      · rcases a7 with a7 | a7
        · exact absurd a7 c
        · exact Or.inr (by rw [hT _ (by omega)]; exact a7)
    · rw [tk_pk_c (T := T) (T1 := T1) fun i i1 i2 => hT i (by omega)]
      exact a8
  · refine Or.inr (Or.inr (Or.inl ⟨a1, by rw [hT _ (by omega)]; exact a2, a3, a4, a5, fun i i1 i2 => by rw [hT i (by omega)]; exact a6 i i1 i2, ?_, ?_⟩))
    · by_cases c : e = n
      · exact Or.inl c
      · rcases a7 with a7 | a7
        · exact absurd a7 c
        · exact Or.inr (by rw [hT _ (by omega)]; exact a7)
    · rw [tk_nm_c (T := T) (T1 := T1) fun i i1 i2 => hT i (by omega)]
      exact a8
  · exact Or.inr (Or.inr (Or.inr ⟨a1, by rw [hT _ (by omega)]; exact a2, by rw [hT _ (by omega)]; exact a3, by rw [hT _ (by omega)]; exact a4, a5, by rw [hT _ (by omega)]; exact a6, a7⟩))
/-- one text -/
def sm_T (V W : pm_M) : Prop := V 1 1 = W 90 1 ∧ 0 ≤ V 1 1 ∧ V 1 1 ≤ 500 ∧ ∀ i : Nat, (i : Int) < V 1 1 → -128 ≤ W 91 i ∧ W 91 i ≤ 127 ∧ V 2 i = W 91 i % 256
/-- one token -/
def sm_K (V W : pm_M) : Prop := ∃ s a q e, tk_c V s a q e ∧ tk_r W s a q e ∧ 0 ≤ q ∧ q ≤ e ∧ e ≤ V 1 1 ∧ (s ≠ 0 → q + 1 ≤ e)
theorem sm_T.up {V W V1 W1 : pm_M} (h : sm_T V W) (h1 : V1 1 = V 1) (h2 : V1 2 = V 2) (h3 : W1 91 = W 91) (h4 : W1 90 1 = W 90 1) : sm_T V1 W1 := by
  unfold sm_T
  rw [h1, h2, h3, h4]
  exact h
theorem sm_K.up {V W V1 W1 : pm_M} (h : sm_K V W) (h1 : V1 1 = V 1) (h3 : V1 3 = V 3) (g2 : W1 90 2 = W 90 2) (g3 : W1 90 3 = W 90 3) (g4 : W1 90 4 = W 90 4) (g5 : W1 90 5 = W 90 5) : sm_K V1 W1 := by
  unfold sm_K tk_c tk_r
  rw [h1, h3, g2, g3, g4, g5]
  exact h
theorem sm_K.flat {V W : pm_M} (h : sm_K V W) : (V 3 1 = 1 ↔ W 90 3 = 1) ∧ (V 3 1 = 1 → V 3 3 = W 90 5) ∧ (V 3 1 = 2 ↔ W 90 3 = 2) ∧ (V 3 1 = 2 → min (V 3 3) 100000 = min (W 90 5) 100000) ∧ (V 3 1 = 0 ↔ W 90 3 = 0) ∧ (V 3 1 = 3 ↔ (W 90 3 = 3 ∨ W 90 3 = 4)) ∧ (W 90 3 = 3 → tk_sg (W 90 5)) ∧ (W 90 3 = 4 → ¬ tk_sg (W 90 5)) ∧ (V 3 1 = 3 → V 3 3 = W 90 5 % 256 ∧ -128 ≤ W 90 5 ∧ W 90 5 ≤ 127) ∧ V 3 2 = W 90 4 ∧ V 3 4 = W 90 2 ∧ 0 ≤ V 3 4 ∧ V 3 4 ≤ V 1 1 ∧ 0 ≤ V 3 2 ∧ V 3 2 ≤ V 3 4 ∧ (V 3 1 ≠ 0 → V 3 2 + 1 ≤ V 3 4) := by
  obtain ⟨s, a, q, e, ⟨c1, c2, c3, c4, c5⟩, ⟨r1, r2, r3⟩, b1, b2, b3, b4⟩ := h
  rcases r3 with ⟨s1, s2, s3⟩ | ⟨s1, s2, s3⟩ | ⟨s1, s2, s3⟩ | ⟨s1, s2, s3, s4, s5⟩
  · subst s1
    exact ⟨by omega, by omega, by omega, by omega, by omega, by omega, fun z => by omega, fun z => by omega, fun z => by omega, by omega, by omega, by omega, by omega, by omega, by omega, by omega⟩
  · subst s1
    have := c5 (by decide)
    exact ⟨by omega, by omega, by omega, by omega, by omega, by omega, fun z => by omega, fun z => by omega, fun z => by omega, by omega, by omega, by omega, by omega, by omega, by omega, fun _ => by have := b4 (by decide); omega⟩
  · subst s1
    have := c4 rfl
    exact ⟨by omega, by omega, by omega, by omega, by omega, by omega, fun z => by omega, fun z => by omega, fun z => by omega, by omega, by omega, by omega, by omega, by omega, by omega, fun _ => by have := b4 (by decide); omega⟩
  · subst s1
    have := c5 (by decide)
    rcases s2 with ⟨k1, k2⟩ | ⟨k1, k2⟩
    · exact ⟨by omega, by omega, by omega, by omega, by omega, by omega, fun _ => k2, fun z => by omega, fun z => by omega, by omega, by omega, by omega, by omega, by omega, by omega, fun _ => by have := b4 (by decide); omega⟩
    · exact ⟨by omega, by omega, by omega, by omega, by omega, by omega, fun z => by omega, fun _ => k2, fun z => by omega, by omega, by omega, by omega, by omega, by omega, by omega, fun _ => by have := b4 (by decide); omega⟩
theorem sm_K.ln {V W : pm_M} (h : sm_K V W) : V 3 2 = W 90 4 ∧ V 3 4 = W 90 2 ∧ 0 ≤ V 3 4 ∧ V 3 4 ≤ V 1 1 ∧ 0 ≤ V 3 2 ∧ V 3 2 ≤ V 3 4 := by
  have f := h.flat
  exact ⟨f.2.2.2.2.2.2.2.2.2.1, f.2.2.2.2.2.2.2.2.2.2.1, f.2.2.2.2.2.2.2.2.2.2.2.1, f.2.2.2.2.2.2.2.2.2.2.2.2.1, f.2.2.2.2.2.2.2.2.2.2.2.2.2.1, f.2.2.2.2.2.2.2.2.2.2.2.2.2.2.1⟩
/-- both step from one place -/
theorem sm_step {V W : pm_M} (hT : sm_T V W) (hp : V 3 4 = W 90 2) (h0 : 0 ≤ V 3 4 ∧ V 3 4 ≤ V 1 1) : ∃ V1 W1, F_X9_step V = (0, V1) ∧ F_X12_leads W = (0, W1) ∧ (∀ k, k ≠ 3 → V1 k = V k) ∧ tk_f9 W W1 ∧ sm_T V1 W1 ∧ sm_K V1 W1 ∧ V 3 4 ≤ V1 3 2 := by
  obtain ⟨t1, t2, t3, t4⟩ := hT
  obtain ⟨V1, s, a, q, e, c1, c2, c3, c4, c5⟩ := c_step h0
  obtain ⟨W1, s1, a1, q1, e1, r1, r2, r3, r4⟩ := r_leads (V := W) (by omega) (fun i hi => by have := t4 i (by omega); exact ⟨this.1, this.2.1⟩)
  have hc : TK (tk_T W) (V 1 1) (V 3 4) s a q e := TK_c h0.1 c4 (fun i hi => (t4 i hi).2.2.symm)
  rw [← t1, ← hp] at r3
  obtain ⟨u1, u2, u3, u4⟩ := TK_u h0.1 hc r3
  subst u1
  subst u2
  subst u3
  subst u4
  have hl := TK_le c4
  refine ⟨V1, W1, c1, r1, c2, r2, ?_, ⟨s, a, q, e, c5, r4, by omega, by omega, by rw [c2 1 (by decide)]; omega, by omega⟩, by rw [c5.2.1]; exact hl.1⟩
  exact sm_T.up (V := V) (W := W) ⟨t1, t2, t3, t4⟩ (c2 1 (by decide)) (c2 2 (by decide)) (r2.1 91 (by decide)) (r2.2 1 (by decide) (by decide) (by decide) (by decide))
theorem sm_nx {V W : pm_M} (hT : sm_T V W) (hK : sm_K V W) : ∃ V1 W1, F_X9_step V = (0, V1) ∧ F_X12_leads W = (0, W1) ∧ (∀ k, k ≠ 3 → V1 k = V k) ∧ tk_f9 W W1 ∧ sm_T V1 W1 ∧ sm_K V1 W1 ∧ V 3 4 ≤ V1 3 2 := by
  have f := hK.ln
  exact sm_step hT (by omega) ⟨by omega, by omega⟩
/-! what is asked of a token -/
theorem c_isSign (c : Int) (V : pm_M) : F_X9_isSign c V = (if V 3 1 = 3 ∧ V 3 3 = c then 1 else 0, V) := by
  rw [F_X9_isSign_eq]
  simp only [pf_let, pm_cmp_eq0]
  by_cases h1 : V 3 1 = 3 <;> by_cases h2 : V 3 3 = c <;> simp [h1, h2]
theorem r_isSign (c : Int) (V : pm_M) : F_X12_isSign c V = (if V 90 3 = 3 ∧ V 90 5 = c then 1 else 0, V) := by
  rw [F_X12_isSign_eq]
  simp only [pf_let, pm_cmp_eq0]
  by_cases h1 : V 90 3 = 3 <;> by_cases h2 : V 90 5 = c <;> simp [h1, h2]
theorem c_isWord (c : Int) (V : pm_M) : F_X9_isWord c V = (if V 3 1 = 1 ∧ V 3 3 = c then 1 else 0, V) := by
  rw [F_X9_isWord_eq]
  simp only [pf_let, pm_cmp_eq0]
  by_cases h1 : V 3 1 = 1 <;> by_cases h2 : V 3 3 = c <;> simp [h1, h2]
theorem r_isWord (c : Int) (V : pm_M) : F_X12_isWord c V = (if V 90 3 = 1 ∧ V 90 5 = pm_pk c.toNat then 1 else 0, V) := by
  rw [F_X12_isWord_eq]
  simp only [pf_let, pm_cmp_eq0]
  by_cases h1 : V 90 3 = 1 <;> by_cases h2 : V 90 5 = pm_pk c.toNat <;> simp [h1, h2]
theorem c_isNumber (a b : Int) (V : pm_M) : F_X9_isNumber a b V = (if V 3 1 = 2 ∧ a ≤ V 3 3 ∧ V 3 3 ≤ b then 1 else 0, V) := by
  rw [F_X9_isNumber_eq]
  simp only [pf_let, pm_cmp_lt0, pm_cmp_gt0]
  by_cases h1 : V 3 1 = 2
  · by_cases h2 : a ≤ V 3 3
    · by_cases h3 : V 3 3 ≤ b
      · simp [h1, h2, h3, Int.not_lt.mpr h2, Int.not_lt.mpr h3]
      · simp [h1, h2, h3, Int.not_lt.mpr h2, Int.not_le.mp h3]
    · simp [h1, h2, Int.not_le.mp h2]
  · simp [h1]
def sm_key (v : Int) : Prop := v = 495791205988 ∨ v = 508675318629 ∨ v = 1717658469 ∨ v = 1868850291 ∨ v = 1752132708 ∨ v = 465557353070
theorem sm_pk : pm_pk 0 = 495791205988 ∧ pm_pk 1 = 508675318629 ∧ pm_pk 2 = 1717658469 ∧ pm_pk 3 = 1868850291 ∧ pm_pk 4 = 1752132708 ∧ pm_pk 5 = 465557353070 := by decide +kernel
theorem c_isName (V : pm_M) : ∃ y, F_X9_isName V = (y, V) ∧ (y = 0 ∨ y = 1) ∧ (y = 1 ↔ V 3 1 = 1 ∧ V 3 3 ≠ 0 ∧ ¬ sm_key (V 3 3)) := by
  rw [F_X9_isName_eq]
  simp only [pf_let, pm_cmp_eq0]
  unfold sm_key
  repeat' split
  all_goals exact ⟨_, rfl, by omega, by omega⟩
theorem r_isName (V : pm_M) : ∃ y, F_X12_isName V = (y, V) ∧ (y = 0 ∨ y = 1) ∧ (y = 1 ↔ V 90 3 = 1 ∧ V 90 5 ≠ 0 ∧ ¬ sm_key (V 90 5)) := by
  rw [F_X12_isName_eq]
  have hp := sm_pk
  have e0 : (0 : Int).toNat = 0 := rfl
  have e1 : (1 : Int).toNat = 1 := rfl
  have e2 : (2 : Int).toNat = 2 := rfl
  have e3 : (3 : Int).toNat = 3 := rfl
  have e4 : (4 : Int).toNat = 4 := rfl
  have e5 : (5 : Int).toNat = 5 := rfl
  simp only [pf_let, pf_call, pm_cmp_eq0, r_isWord, e0, e1, e2, e3, e4, e5, hp.1, hp.2.1, hp.2.2.1, hp.2.2.2.1, hp.2.2.2.2.1, hp.2.2.2.2.2]
  unfold sm_key
  by_cases h1 : V 90 3 = 1
  · by_cases h2 : V 90 5 = 0
    · exact ⟨0, by simp [h1, h2], Or.inl rfl, by omega⟩
    · by_cases k0 : V 90 5 = 495791205988
      · exact ⟨0, by simp [h1, k0], Or.inl rfl, by omega⟩
      · by_cases k1 : V 90 5 = 508675318629
        · exact ⟨0, by simp [h1, k1], Or.inl rfl, by omega⟩
        · by_cases k2 : V 90 5 = 1717658469
          · exact ⟨0, by simp [h1, k2], Or.inl rfl, by omega⟩
          · by_cases k3 : V 90 5 = 1868850291
            · exact ⟨0, by simp [h1, k3], Or.inl rfl, by omega⟩
            · by_cases k4 : V 90 5 = 1752132708
              · exact ⟨0, by simp [h1, k4], Or.inl rfl, by omega⟩
              · by_cases k5 : V 90 5 = 465557353070
                · exact ⟨0, by simp [h1, k5], Or.inl rfl, by omega⟩
                · exact ⟨1, by simp [h1, h2, k0, k1, k2, k3, k4, k5], Or.inr rfl, by omega⟩
  · exact ⟨0, by simp [h1], Or.inl rfl, by omega⟩
theorem sm_name {V W : pm_M} (hK : sm_K V W) : ∃ y, F_X9_isName V = (y, V) ∧ F_X12_isName W = (y, W) ∧ (y = 0 ∨ y = 1) ∧ (y = 1 → V 3 3 = W 90 5) := by
  obtain ⟨y, c1, c2, c3⟩ := c_isName V
  obtain ⟨z, r1, r2, r3⟩ := r_isName W
  have f := hK.ln
  have hyz : y = z := by
    have this : y = 1 ↔ z = 1 := by
      by_cases h : W 90 3 = 1
      · have hv := hK.flat.2.1 (hK.flat.1.mpr h)
        rw [hv] at c3
        exact ⟨fun q => r3.mpr ⟨h, (c3.mp q).2⟩, fun q => c3.mpr ⟨hK.flat.1.mpr h, (r3.mp q).2⟩⟩
      · exact ⟨fun q => absurd (hK.flat.1.mp (c3.mp q).1) h, fun q => absurd (r3.mp q).1 h⟩
    rcases c2 with c2 | c2
    · rcases r2 with r2 | r2
      · rw [c2, r2]
      · have q := this.mpr r2
        rw [c2] at q
        exact absurd q (by decide)
    · rw [c2, this.mp c2]
  subst hyz
  exact ⟨y, c1, r1, c2, fun q => hK.flat.2.1 (c3.mp q).1⟩
theorem sm_sign {V W : pm_M} {c : Int} (hK : sm_K V W) (hc : tk_sg c) : ∃ y, F_X9_isSign c V = (y, V) ∧ F_X12_isSign c W = (y, W) ∧ (y = 0 ∨ (y = 1 ∧ V 3 1 = 3 ∧ V 3 3 = c)) := by
  have f := hK.ln
  rw [c_isSign, r_isSign]
  by_cases h : W 90 3 = 3 ∧ W 90 5 = c
  · rw [if_pos h]
    have h3 : V 3 1 = 3 := hK.flat.2.2.2.2.2.1.mpr (Or.inl h.1)
    have h4 := hK.flat.2.2.2.2.2.2.2.2.1 h3
    have h5 : V 3 3 = c := by
      rw [h4.1, h.2]
      rcases hc with z | z | z | z | z | z | z | z <;> omega
    rw [if_pos ⟨h3, h5⟩]
    exact ⟨1, rfl, rfl, Or.inr ⟨rfl, h3, h5⟩⟩
  · rw [if_neg h]
    have h2 : ¬ (V 3 1 = 3 ∧ V 3 3 = c) := by
      rintro ⟨q1, q2⟩
      have h4 := hK.flat.2.2.2.2.2.2.2.2.1 q1
      have h5 : W 90 5 = c := by
        rw [h4.1] at q2
        rcases hc with z | z | z | z | z | z | z | z <;> omega
      rcases hK.flat.2.2.2.2.2.1.mp q1 with k | k
      · exact h ⟨k, h5⟩
      · exact hK.flat.2.2.2.2.2.2.2.1 k (by rw [h5]; exact hc)
    rw [if_neg h2]
    exact ⟨0, rfl, rfl, Or.inl rfl⟩
theorem sm_word {V W : pm_M} {c j : Int} (hK : sm_K V W) (hc : pm_pk j.toNat = c) : ∃ y, F_X9_isWord c V = (y, V) ∧ F_X12_isWord j W = (y, W) ∧ (y = 0 ∨ (y = 1 ∧ V 3 1 = 1)) := by
  have f := hK.ln
  rw [c_isWord, r_isWord, hc]
  by_cases h : W 90 3 = 1 ∧ W 90 5 = c
  · have h3 := hK.flat.1.mpr h.1
    rw [if_pos h, if_pos ⟨h3, by rw [hK.flat.2.1 h3]; exact h.2⟩]
    exact ⟨1, rfl, rfl, Or.inr ⟨rfl, h3⟩⟩
  · rw [if_neg h, if_neg (fun q => h ⟨hK.flat.1.mp q.1, by rw [← hK.flat.2.1 q.1]; exact q.2⟩)]
    exact ⟨0, rfl, rfl, Or.inl rfl⟩
/-- a number and the step behind it -/
theorem sm_number {V W : pm_M} {a b : Int} (hT : sm_T V W) (hK : sm_K V W) (hb : b ≤ 9999) : (F_X9_isNumber a b V = (0, V) ∧ F_X12_number a b W = (0, W)) ∨ (∃ v V1 W1, a ≤ v ∧ v ≤ b ∧ V 3 3 = v ∧ F_X9_isNumber a b V = (1, V) ∧ F_X9_step V = (0, V1) ∧ F_X12_number a b W = (1, W1) ∧ W1 90 37 = v ∧ (∀ k, k ≠ 3 → V1 k = V k) ∧ (∀ k, k ≠ 90 → W1 k = W k) ∧ (∀ i, i ≠ 2 → i ≠ 3 → i ≠ 4 → i ≠ 5 → i ≠ 37 → W1 90 i = W 90 i) ∧ sm_T V1 W1 ∧ sm_K V1 W1) := by
  have f := hK.ln
  rw [c_isNumber, F_X12_number_eq]
  simp only [pf_let, pm_cmp_lt0, pm_cmp_le0]
  by_cases h1 : W 90 3 = 2
  · have h2 := hK.flat.2.2.1.mpr h1
    have h3 := hK.flat.2.2.2.1 h2
    rw [if_neg (show ¬ ¬ W 90 3 = 2 from fun q => q h1)]
    by_cases h4 : W 90 5 < a
    · rw [if_pos h4, if_neg (show ¬ (V 3 1 = 2 ∧ a ≤ V 3 3 ∧ V 3 3 ≤ b) by rintro ⟨q1, q2, q3⟩; omega)]
      exact Or.inl ⟨rfl, rfl⟩
    · rw [if_neg h4]
      by_cases h5 : W 90 5 ≤ b
      · rw [if_pos h5, if_pos (show V 3 1 = 2 ∧ a ≤ V 3 3 ∧ V 3 3 ≤ b from ⟨h2, by omega, by omega⟩)]
        have hT2 : sm_T V (pm_up W 90 37 (W 90 5)) := hT.up rfl rfl (pm_up_f (by decide)) (pm_up_i (by decide))
        have hK2 : sm_K V (pm_up W 90 37 (W 90 5)) := hK.up rfl rfl (pm_up_i (by decide)) (pm_up_i (by decide)) (pm_up_i (by decide)) (pm_up_i (by decide))
        obtain ⟨V1, W1, c1, r1, c2, r2, t1, k1, -⟩ := sm_nx hT2 hK2
        refine Or.inr ⟨W 90 5, V1, W1, by omega, h5, by omega, rfl, c1, ?_, ?_, c2, ?_, ?_, t1, k1⟩
        · rw [r1]
          rfl
        · rw [r2.2 37 (by decide) (by decide) (by decide) (by decide), pm_up_s]
        · intro k hk
          rw [r2.1 k hk, pm_up_f hk]
        · intro i i2 i3 i4 i5 i37
          rw [r2.2 i i2 i3 i4 i5, pm_up_i i37]
      · rw [if_neg h5, if_neg (show ¬ (V 3 1 = 2 ∧ a ≤ V 3 3 ∧ V 3 3 ≤ b) by rintro ⟨q1, q2, q3⟩; omega)]
        exact Or.inl ⟨rfl, rfl⟩
  · rw [if_pos (show ¬ W 90 3 = 2 from h1), if_neg (show ¬ (V 3 1 = 2 ∧ a ≤ V 3 3 ∧ V 3 3 ≤ b) by rintro ⟨q1, q2, q3⟩; exact h1 (hK.flat.2.2.1.mp q1))]
    exact Or.inl ⟨rfl, rfl⟩
