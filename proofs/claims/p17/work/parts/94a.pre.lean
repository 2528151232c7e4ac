/-! BEFORE THE METHODS THAT READ: what the reference's reading says of spans and of the lines' codes -/
theorem pf_run_out {S O : Type} {b : S → S ⊕ O} : ∀ (k : Nat) (s : S) (o : O), pf_run b k s = some o → ∃ s1, b s1 = .inr o := by
  intro k
  induction k with
  | zero => intro s o h; exact absurd h (by simp [pf_run])
  | succ k ih =>
    intro s o h
    have h2 : (match b s with | .inl s1 => pf_run b k s1 | .inr o => some o) = some o := h
    cases e : b s with
    | inl s1 => rw [e] at h2; exact ih s1 o h2
    | inr o1 =>
      rw [e] at h2
      cases h2
      exact ⟨s, e⟩
theorem pf_val_out {S O : Type} (d : O) (b : S → S ⊕ O) (s : S) : pf_val d b s = d ∨ ∃ s1, b s1 = .inr (pf_val d b s) := by
  by_cases h0 : ∃ o, ∃ k, pf_run b k s = some o
  · obtain ⟨o, k, hk⟩ := h0
    right
    rw [pf_val_of ⟨k, hk⟩]
    exact pf_run_out k s o hk
  · left
    unfold pf_val
    rw [dif_neg h0]
theorem sf_pair {W W1 : pm_M} {y : Int} (hb : 0 ≤ W 90 4) (h : (Sum.inr (W1 90 4, W1) : pm_M ⊕ (Int × pm_M)) = .inr (-1, W)) : False := by
  have h1 := Sum.inr.inj h
  have e1 : W1 90 4 = -1 := congrArg Prod.fst h1
  have e2 : W1 = W := congrArg Prod.snd h1
  rw [e2] at e1
  omega
theorem sf_out {V W : pm_M} (hok : pm_oq pm_qP W) (h : F_X12_sceneFault V = (-1, W)) : ¬ W 95 0 = -1 ∧ ¬ W 95 2 = -1 ∧ ¬ W 90 6 < 2 := by
  have hb := (hok.get 90 4 (lo := 0) (hi := 500) (t := 0) (by decide) (by decide) rfl).1
  rw [F_X12_sceneFault_eq] at h
  simp only [pf_let, pf_call] at h
  obtain ⟨B, hB, h2⟩ := pf_loop h.symm
  rcases pf_val_out ((0 : Int), V) B _ with q | ⟨s1, q⟩
  · rw [← h2] at q
    have q1 : (-1 : Int) = 0 := congrArg Prod.fst q
    exact absurd q1 (by decide)
  · rw [← h2, hB] at q
    dsimp only at q
    by_cases c1 : s1 90 3 = 0
    · rw [if_pos c1] at q
      by_cases c2 : s1 90 6 < 2
      · rw [if_pos c2] at q
        exact (sf_pair (y := 0) hb q).elim
      · rw [if_neg c2] at q
        by_cases c3 : s1 95 (0 : Int).toNat = -1
        · rw [if_pos c3] at q
          exact (sf_pair (y := 0) hb q).elim
        · rw [if_neg c3] at q
          by_cases c4 : ¬ s1 95 (2 : Int).toNat = -1
          · rw [if_pos c4] at q
            have e2 : s1 = W := congrArg Prod.snd (Sum.inr.inj q)
            rw [e2] at c2 c3 c4
            exact ⟨c3, c4, c2⟩
          · rw [if_neg c4] at q
            exact (sf_pair (y := 0) hb q).elim
    · rw [if_neg c1] at q
      by_cases c5 : ¬ (F_X12_sceneLine s1).1 = 0
      · rw [if_pos c5] at q
        exact absurd q (by simp)
      · rw [if_neg c5] at q
        exact (sf_pair (y := 0) hb q).elim
/-- a scene without a fault has both spans -/
theorem sf_span {V W : pm_M} (hok : pm_oq pm_qP W) {y : Int} (hy : y = -1) (h : F_X12_sceneFault V = (y, W)) : ∀ j : Nat, j < 4 → pm_el (pm_qe pm_qP 98 j) (W 95 j) := by
  subst hy
  obtain ⟨o1, o2, -⟩ := sf_out hok h
  have b0 := hok.get 95 0 (lo := -1) (hi := 60) (t := 0) (by decide) (by decide) rfl
  have b1 := hok.get 95 1 (lo := 0) (hi := 9) (t := 0) (by decide) (by decide) rfl
  have b2 := hok.get 95 2 (lo := -1) (hi := 60) (t := 0) (by decide) (by decide) rfl
  have b3 := hok.get 95 3 (lo := 0) (hi := 9) (t := 0) (by decide) (by decide) rfl
  intro j hj
  rcases (show j = 0 ∨ j = 1 ∨ j = 2 ∨ j = 3 by omega) with rfl | rfl | rfl | rfl
  · exact ⟨show (0 : Int) ≤ W 95 0 by omega, show W 95 0 ≤ 60 by omega, fun q => absurd (show (0 : Nat) = 1 from q) (by decide), fun q => absurd (show (0 : Nat) = 2 from q) (by decide)⟩
  · exact ⟨show (0 : Int) ≤ W 95 1 by omega, show W 95 1 ≤ 9 by omega, fun q => absurd (show (0 : Nat) = 1 from q) (by decide), fun q => absurd (show (0 : Nat) = 2 from q) (by decide)⟩
  · exact ⟨show (0 : Int) ≤ W 95 2 by omega, show W 95 2 ≤ 60 by omega, fun q => absurd (show (0 : Nat) = 1 from q) (by decide), fun q => absurd (show (0 : Nat) = 2 from q) (by decide)⟩
  · exact ⟨show (0 : Int) ≤ W 95 3 by omega, show W 95 3 ≤ 9 by omega, fun q => absurd (show (0 : Nat) = 1 from q) (by decide), fun q => absurd (show (0 : Nat) = 2 from q) (by decide)⟩
/-- the lines' codes taken over -/
theorem pm_r1.mkW {W V' : pm_M} (h : pm_RLn W) (h5 : W 90 33 ≤ 500) (h0 : 0 ≤ W 90 33) (hc : ∀ q : Nat, (q : Int) < 2 * W 90 33 → V' 108 q = W 107 q) (hl : V' 90 35 = W 90 32) : pm_r1 V' := by
  have hx : ∀ i, i < 2 * (W 90 33).toNat → V' 108 i = W 107 i := fun i hi => hc i (by omega)
  refine ⟨(W 90 33).toNat, by omega, pm_wc_c hx h.1, ?_⟩
  rw [pm_la_c hx, hl]
  exact h.2.2
