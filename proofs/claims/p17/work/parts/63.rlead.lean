/-- the reference's tokens hold this token -/
def tk_r (V : pm_M) (s a q e : Int) : Prop := V 90 4 = q ∧ V 90 2 = e ∧ ((s = 0 ∧ V 90 3 = 0 ∧ V 90 5 = a) ∨ (s = 1 ∧ V 90 3 = 1 ∧ V 90 5 = a) ∨ (s = 2 ∧ V 90 3 = 2 ∧ min (V 90 5) 100000 = a) ∨ (s = 3 ∧ ((V 90 3 = 3 ∧ tk_sg (V 90 5)) ∨ (V 90 3 = 4 ∧ ¬ tk_sg (V 90 5))) ∧ V 90 5 % 256 = a ∧ -128 ≤ V 90 5 ∧ V 90 5 ≤ 127))
/-- THE REFERENCE'S LEADS comes to the next token -/
theorem r_leads {V : pm_M} (h0 : 0 ≤ V 90 2 ∧ V 90 2 ≤ V 90 1) (hb : ∀ i : Nat, (i : Int) < V 90 1 → -128 ≤ V 91 i ∧ V 91 i ≤ 127) : ∃ V1 s a q e, F_X12_leads V = (0, V1) ∧ tk_f9 V V1 ∧ TK (tk_T V) (V 90 1) (V 90 2) s a q e ∧ tk_r V1 s a q e := by
  rw [F_X12_leads_eq]
  refine pf_val_ind2 (fun (W : pm_M) => tk_f9 V W ∧ V 90 2 ≤ W 90 2 ∧ W 90 2 ≤ V 90 1 ∧ ∀ i : Nat, V 90 2 ≤ i → (i : Int) < W 90 2 → tk_bl (tk_T V i)) (fun (o : Int × pm_M) => ∃ V1 s a q e, o = (0, V1) ∧ tk_f9 V V1 ∧ TK (tk_T V) (V 90 1) (V 90 2) s a q e ∧ tk_r V1 s a q e) (fun W => (V 90 1 - W 90 2).toNat) ?_ _ ⟨⟨fun _ _ => rfl, fun _ _ _ _ _ => rfl⟩, Int.le_refl _, h0.2, fun i i1 i2 => by omega⟩
  rintro W ⟨g1, g3, g4, g5⟩
  have e2 : W 91 = V 91 := g1.1 91 (by decide)
  have hU : ∀ x y z, tk_f9 V (pm_up (pm_up (pm_up W 90 4 x) 90 5 y) 90 3 z) := fun x y z => ((g1.up 4 x (by decide)).up 5 y (by decide)).up 3 z (by decide)
  simp only [pf_let, pf_call, r_le, r_di, r_sg]
  by_cases c1 : V 90 1 ≤ W 90 2
  · rw [if_pos c1]
    have c2 : W 90 2 = V 90 1 := by omega
    rw [if_neg (fun z => z c2)]
    refine Or.inr ⟨_, rfl, _, 0, 0, W 90 2, W 90 2, rfl, hU _ _ _, ⟨g3, g5, Or.inl ⟨c2, rfl, rfl, c2⟩⟩, ?_, ?_, Or.inl ⟨rfl, pm_up_s, ?_⟩⟩
    · rw [pm_up_i (by decide), pm_up_i (by decide), pm_up_s]
    · rw [pm_up_i (by decide), pm_up_i (by decide), pm_up_i (by decide)]
    · rw [pm_up_i (by decide), pm_up_s]
  · rw [if_neg c1]
    have hlt : W 90 2 < V 90 1 := by omega
    have hbb := hb (W 90 2).toNat (by omega)
    have hbe := tk_b _ hbb
    rw [← e2] at hbb hbe
    have hTe : tk_T V (W 90 2).toNat = W 91 (W 90 2).toNat % 256 := by rw [e2]; rfl
    have blank : tk_bl (W 91 (W 90 2).toNat) → (tk_f9 V (pm_up W 90 2 (W 90 2 + 1)) ∧ V 90 2 ≤ (pm_up W 90 2 (W 90 2 + 1)) 90 2 ∧ (pm_up W 90 2 (W 90 2 + 1)) 90 2 ≤ V 90 1 ∧ ∀ i : Nat, V 90 2 ≤ i → (i : Int) < (pm_up W 90 2 (W 90 2 + 1)) 90 2 → tk_bl (tk_T V i)) ∧ (V 90 1 - (pm_up W 90 2 (W 90 2 + 1)) 90 2).toNat < (V 90 1 - W 90 2).toNat := by
      intro hbk
      rw [pm_up_s]
      refine ⟨⟨g1.up 2 _ (by decide), by omega, by omega, fun i i1 i2 => ?_⟩, by omega⟩
      by_cases hi : (i : Int) < W 90 2
      · exact g5 i i1 hi
      · have hi2 : i = (W 90 2).toNat := by omega
        rw [hi2, hTe]
        exact hbe.2.2.1.mpr hbk
    by_cases k1 : W 91 (W 90 2).toNat = 32
    · rw [if_pos k1]
      exact Or.inl ⟨_, rfl, blank (Or.inl k1)⟩
    · rw [if_neg k1]
      by_cases k2 : W 91 (W 90 2).toNat = 10
      · rw [if_neg (fun z => z k2)]
        exact Or.inl ⟨_, rfl, blank (Or.inr k2)⟩
      · rw [if_pos k2]
        clear blank
        refine Or.inr ?_
        rw [if_pos (show ¬ W 90 2 = V 90 1 by omega)]
        have hnb : ¬ tk_bl (W 91 (W 90 2).toNat) := fun z => by rcases z with z | z; exact k1 z; exact k2 z
        by_cases k3 : tk_le (W 91 (W 90 2).toNat)
        · rw [if_pos k3, if_neg (show ¬ ((1 : Int) = 0) by decide)]
          obtain ⟨V1, r1, r2, r3, r4, m, r5, r6, r7, r8, r9⟩ := r_word (d := .inr ((0 : Int), V)) (V0 := V) (q := W 90 2) (en := V 90 1) (W := pm_up (pm_up (pm_up W 90 4 (W 90 2)) 90 5 0) 90 3 0) (by omega) hb ⟨hU _ _ _, by rw [pm_up_i (by decide), pm_up_i (by decide), pm_up_s], 0, by rw [pm_up_i (by decide), pm_up_i (by decide), pm_up_i (by decide)]; omega, by omega, fun i i1 i2 => by omega, by rw [pm_up_i (by decide), pm_up_s]; rfl⟩
          delta r_wb at r1
          simp only [pf_let, pf_call, r_le] at r1
          have hm : 1 ≤ m := by
            rcases Nat.eq_zero_or_pos m with c | c
            · subst c
              exfalso
              rcases r8 with r8 | r8
              · omega
              · exact r8 (by rw [← e2]; exact k3)
            · exact c
          have hle : ∀ i : Nat, W 90 2 ≤ i → (i : Int) < W 90 2 + m → tk_le (tk_T V i) := fun i i1 i2 => (tk_b _ (hb i (by omega))).1.mpr (r7 i i1 i2)
          have he : (W 90 2 + (m : Int)).toNat = (W 90 2).toNat + m := by omega
          have hme : (W 90 2 + (m : Int) - W 90 2) = m := by omega
          refine ⟨_, r1, V1, 1, V1 90 5, W 90 2, W 90 2 + m, rfl, r2, ⟨g3, g5, Or.inr (Or.inl ⟨hlt, hle _ (by omega) (by omega), rfl, by omega, r6, hle, ?_, ?_⟩)⟩, r3, r5, Or.inr (Or.inl ⟨rfl, r4, rfl⟩)⟩
          · rcases r8 with r8 | r8
            · exact Or.inl r8
            · by_cases c : W 90 2 + (m : Int) < V 90 1
              · refine Or.inr (fun z => r8 ?_)
                rw [he] at z
                exact (tk_b _ (hb ((W 90 2).toNat + m) (by omega))).1.mp z
              · exact Or.inl (by omega)
          · rw [hme, r9, Int.toNat_natCast]
        · rw [if_neg k3, if_pos rfl]
          by_cases k4 : tk_di (W 91 (W 90 2).toNat)
          · rw [if_pos k4, if_neg (show ¬ ((1 : Int) = 0) by decide)]
            obtain ⟨V1, r1, r2, r3, r4, m, r5, r6, r7, r8, r9, r10⟩ := r_num (d := .inr ((0 : Int), V)) (V0 := V) (q := W 90 2) (en := V 90 1) (W := pm_up (pm_up (pm_up W 90 4 (W 90 2)) 90 5 0) 90 3 0) (by omega) hb ⟨hU _ _ _, by rw [pm_up_i (by decide), pm_up_i (by decide), pm_up_s], 0, by rw [pm_up_i (by decide), pm_up_i (by decide), pm_up_i (by decide)]; omega, by omega, fun i i1 i2 => by omega, by rw [pm_up_i (by decide), pm_up_s]; exact ⟨rfl, by decide, by decide⟩⟩
            delta r_nb at r1
            simp only [pf_let, pf_call, r_di] at r1
            have hm : 1 ≤ m := by
              rcases Nat.eq_zero_or_pos m with c | c
              · subst c
                exfalso
                rcases r8 with r8 | r8
                · omega
                · exact r8 (by rw [← e2]; exact k4)
              · exact c
            have hle : ∀ i : Nat, W 90 2 ≤ i → (i : Int) < W 90 2 + m → tk_di (tk_T V i) := fun i i1 i2 => (tk_b _ (hb i (by omega))).2.1.mpr (r7 i i1 i2)
            have he : (W 90 2 + (m : Int)).toNat = (W 90 2).toNat + m := by omega
            have hme : (W 90 2 + (m : Int) - W 90 2) = m := by omega
            refine ⟨_, r1, V1, 2, min (V1 90 5) 100000, W 90 2, W 90 2 + m, rfl, r2, ⟨g3, g5, Or.inr (Or.inr (Or.inl ⟨hlt, hle _ (by omega) (by omega), rfl, by omega, r6, hle, ?_, ?_⟩))⟩, r3, r5, Or.inr (Or.inr (Or.inl ⟨rfl, r4, rfl⟩))⟩
            · rcases r8 with r8 | r8
              · exact Or.inl r8
              · by_cases c : W 90 2 + (m : Int) < V 90 1
                · refine Or.inr (fun z => r8 ?_)
                  rw [he] at z
                  exact (tk_b _ (hb ((W 90 2).toNat + m) (by omega))).2.1.mp z
                · exact Or.inl (by omega)
            · rw [hme, r9, Int.toNat_natCast]
          · rw [if_neg k4, if_pos rfl]
            have ht : ∀ k : Int, TK (tk_T V) (V 90 1) (V 90 2) 3 (W 91 (W 90 2).toNat % 256) (W 90 2) (W 90 2 + 1) := fun _ => ⟨g3, g5, Or.inr (Or.inr (Or.inr ⟨hlt, by rw [hTe]; exact fun z => hnb (hbe.2.2.1.mp z), by rw [hTe]; exact fun z => k3 (hbe.1.mp z), by rw [hTe]; exact fun z => k4 (hbe.2.1.mp z), rfl, hTe.symm, rfl⟩))⟩
            by_cases k5 : tk_sg (W 91 (W 90 2).toNat)
            · rw [if_pos k5, if_neg (show ¬ ((1 : Int) = 0) by decide)]
              refine ⟨_, rfl, _, 3, _, _, _, rfl, (((hU _ _ _).up 3 _ (by decide)).up 5 _ (by decide)).up 2 _ (by decide), ht 0, ?_, pm_up_s, Or.inr (Or.inr (Or.inr ⟨rfl, Or.inl ⟨?_, ?_⟩, ?_, ?_, ?_⟩))⟩
              · rw [pm_up_i (by decide), pm_up_i (by decide), pm_up_i (by decide), pm_up_i (by decide), pm_up_i (by decide), pm_up_s]
              · rw [pm_up_i (by decide), pm_up_i (by decide), pm_up_s]
              · rw [pm_up_i (by decide), pm_up_s]; exact k5
              · rw [pm_up_i (by decide), pm_up_s]
              · rw [pm_up_i (by decide), pm_up_s]; exact hbb.1
              · rw [pm_up_i (by decide), pm_up_s]; exact hbb.2
            · rw [if_neg k5, if_pos rfl]
              refine ⟨_, rfl, _, 3, _, _, _, rfl, (((hU _ _ _).up 3 _ (by decide)).up 5 _ (by decide)).up 2 _ (by decide), ht 0, ?_, pm_up_s, Or.inr (Or.inr (Or.inr ⟨rfl, Or.inr ⟨?_, ?_⟩, ?_, ?_, ?_⟩))⟩
              · rw [pm_up_i (by decide), pm_up_i (by decide), pm_up_i (by decide), pm_up_i (by decide), pm_up_i (by decide), pm_up_s]
              · rw [pm_up_i (by decide), pm_up_i (by decide), pm_up_s]
              · rw [pm_up_i (by decide), pm_up_s]; exact k5
              · rw [pm_up_i (by decide), pm_up_s]
              · rw [pm_up_i (by decide), pm_up_s]; exact hbb.1
              · rw [pm_up_i (by decide), pm_up_s]; exact hbb.2
/-- how far leads goes -/
theorem r_leads_pr {V V1 : pm_M} (hok : pm_oq pm_qP V) (hz : pm_az V) (he : F_X12_leads V = (0, V1)) : V 90 2 ≤ V1 90 4 ∧ V1 90 4 ≤ V1 90 2 ∧ V1 90 2 ≤ V 90 1 ∧ V1 90 3 ≤ 4 * (V1 90 2 - V1 90 4) ∧ V1 90 3 ≤ 5 * (V1 90 2 - V 90 2) := by
  have b1 := hok.get 90 1 (lo := 0) (hi := 500) (t := 0) (by decide) (by decide) rfl
  have b2 := hok.get 90 2 (lo := 0) (hi := 500) (t := 0) (by decide) (by decide) rfl
  obtain ⟨V2, s, a, q, e, r1, -, r3, r4, r5, r6⟩ := r_leads (V := V) ⟨b2.1, hz⟩ (fun i hi => hok.get 91 i (lo := -128) (hi := 127) (t := 0) (by decide) (show i < 500 by omega) rfl)
  rw [he] at r1
  cases r1
  have h := TK_le r3
  rcases r6 with ⟨c1, c2, -⟩ | ⟨c1, c2, -⟩ | ⟨c1, c2, -⟩ | ⟨c1, c2 | c2, -⟩
  all_goals exact ⟨by omega, by omega, by omega, by omega, by omega⟩
