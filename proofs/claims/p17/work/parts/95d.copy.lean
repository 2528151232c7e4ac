/-! COPIES of sheets: what they leave as it was -/
theorem pf_let_val {A B : Type} (x : A) (f : A → B) : pf_let x f = f x := rfl
/-- a loop that ends by its own end: a property of all its ends -/
theorem cp_from (dst src : Nat) (V : pm_M) (h1 : dst + 9 < src ∨ src + 9 < dst) : ∃ Z, F_X7_copyFrom dst src V = (0, Z) ∧ Z dst 1 = V src 1 ∧ Z dst 6 = V src 6 ∧ ∀ k i, (k ≤ dst ∨ dst + 9 < k) → (k = dst → i ≠ 1 ∧ i ≠ 6) → Z k i = V k i := by
  have e := F_X7_copyFrom_eq dst src V
  simp only [pf_let] at e
  obtain ⟨y, hy⟩ : ∃ y, V src 1 = y := ⟨_, rfl⟩
  rw [hy] at e
  obtain ⟨B, hB, e⟩ := pf_loop e
  have hBx : ∀ (x : Int) (U : pm_M), _ := fun x U => congrFun hB (x, U)
  simp only [] at hBx
  have key := pf_val_ind (d := ((0 : Int), V)) (b := B) (fun s => s.2 dst 1 = y ∧ ∀ k i, (k ≤ dst ∨ dst + 9 < k) → (k = dst → i ≠ 1 ∧ i ≠ 6) → s.2 k i = V k i) (fun o => o.1 = 0 ∧ o.2 dst 1 = y ∧ o.2 dst 6 = V src 6 ∧ ∀ k i, (k ≤ dst ∨ dst + 9 < k) → (k = dst → i ≠ 1 ∧ i ≠ 6) → o.2 k i = V k i) (fun s => (y - s.1).toNat) ?_ ?_ (0, pm_up V dst 1 y) ⟨pm_up_s, fun k i q1 q2 => ?_⟩
  · obtain ⟨o, ho⟩ : ∃ o, pf_val ((0 : Int), V) B (0, pm_up V dst 1 y) = o := ⟨_, rfl⟩
    rw [ho] at key e
    obtain ⟨z, Z⟩ := o
    obtain ⟨k1, k2, k3, k4⟩ := key
    have k1 : z = 0 := k1
    subst k1
    exact ⟨Z, e, k2.trans hy.symm, k3, k4⟩
  · rintro ⟨x, U⟩ s1 ⟨p1, p2⟩ hs
    dsimp only at p1 p2
    have b0 := hBx x U
    by_cases c : y ≤ x
    · rw [if_pos c] at b0
      obtain ⟨B2, hB2, b1⟩ := pf_loop b0
      have hx2 : ∀ (x : Int) (U : pm_M), _ := fun x U => congrFun hB2 (x, U)
      simp only [] at hx2
      have key2 := pf_val_ind (d := (Sum.inr ((0 : Int), V) : (Int × pm_M) ⊕ (Int × pm_M))) (b := B2) (fun _ => True) (fun o => ∃ w, o = Sum.inr w) (fun s => (U src 6 - s.1).toNat) ?_ ?_ (0, pm_up U dst 6 (U src 6)) trivial
      · obtain ⟨w, hw⟩ := key2
        rw [hw] at b1
        rw [b1] at hs
        exact absurd hs (by simp)
      · rintro ⟨x2, U2⟩ s2 - hs2
        rw [hx2 x2 U2] at hs2
        by_cases c2 : U src 6 ≤ x2
        · rw [if_pos c2] at hs2
          exact absurd hs2 (by simp)
        · rw [if_neg c2] at hs2
          have q := Sum.inl.inj hs2
          rw [← q]
          exact ⟨trivial, by show (U src 6 - (x2 + 1)).toNat < (U src 6 - x2).toNat; omega⟩
      · rintro ⟨x2, U2⟩ o - ho
        rw [hx2 x2 U2] at ho
        by_cases c2 : U src 6 ≤ x2
        · rw [if_pos c2] at ho
          exact ⟨_, (Sum.inr.inj ho).symm⟩
        · rw [if_neg c2] at ho
          exact absurd ho (by simp)
    · rw [if_neg c] at b0
      rw [b0] at hs
      have q := Sum.inl.inj hs
      rw [← q]
      refine ⟨⟨?_, fun k i q1 q2 => ?_⟩, by show (y - (x + 1)).toNat < (y - x).toNat; omega⟩
      · dsimp only
        rw [pm_up_c (by omega), pm_up_c (by omega), pm_up_c (by omega), pm_up_c (by omega)]
        exact p1
      · dsimp only
        rw [pm_up_c (by omega), pm_up_c (by omega), pm_up_c (by omega), pm_up_c (by omega)]
        exact p2 k i q1 q2
  · rintro ⟨x, U⟩ o ⟨p1, p2⟩ ho
    dsimp only at p1 p2
    have b0 := hBx x U
    by_cases c : y ≤ x
    · rw [if_pos c] at b0
      obtain ⟨B2, hB2, b1⟩ := pf_loop b0
      have hx2 : ∀ (x : Int) (U : pm_M), _ := fun x U => congrFun hB2 (x, U)
      simp only [] at hx2
      have u6 : U src 6 = V src 6 := p2 src 6 (by omega) (fun q => by omega)
      have key2 := pf_val_ind (d := (Sum.inr ((0 : Int), V) : (Int × pm_M) ⊕ (Int × pm_M))) (b := B2) (fun s => s.2 dst 1 = y ∧ s.2 dst 6 = V src 6 ∧ ∀ k i, (k ≤ dst ∨ dst + 9 < k) → (k = dst → i ≠ 1 ∧ i ≠ 6) → s.2 k i = V k i) (fun o => ∃ w : Int × pm_M, o = Sum.inr w ∧ w.1 = 0 ∧ w.2 dst 1 = y ∧ w.2 dst 6 = V src 6 ∧ ∀ k i, (k ≤ dst ∨ dst + 9 < k) → (k = dst → i ≠ 1 ∧ i ≠ 6) → w.2 k i = V k i) (fun s => (U src 6 - s.1).toNat) ?_ ?_ (0, pm_up U dst 6 (U src 6)) ⟨by dsimp only; rw [pm_up_i (by decide)]; exact p1, by dsimp only; rw [pm_up_s, u6], fun k i q1 q2 => ?_⟩
      · obtain ⟨w, hw, w1, w2, w3, w4⟩ := key2
        rw [hw] at b1
        rw [b1] at ho
        have q := Sum.inr.inj ho
        rw [← q]
        exact ⟨w1, w2, w3, w4⟩
      · rintro ⟨x2, U2⟩ s2 ⟨r1, r2, r3⟩ hs2
        dsimp only at r1 r2 r3
        rw [hx2 x2 U2] at hs2
        by_cases c2 : U src 6 ≤ x2
        · rw [if_pos c2] at hs2
          exact absurd hs2 (by simp)
        · rw [if_neg c2] at hs2
          have q := Sum.inl.inj hs2
          rw [← q]
          refine ⟨⟨?_, ?_, fun k i q1 q2 => ?_⟩, by show (U src 6 - (x2 + 1)).toNat < (U src 6 - x2).toNat; omega⟩
          · dsimp only
            rw [pm_up_c (by omega), pm_up_c (by omega), pm_up_c (by omega), pm_up_c (by omega), pm_up_c (by omega)]
            exact r1
          · dsimp only
            rw [pm_up_c (by omega), pm_up_c (by omega), pm_up_c (by omega), pm_up_c (by omega), pm_up_c (by omega)]
            exact r2
          · dsimp only
            rw [pm_up_c (by omega), pm_up_c (by omega), pm_up_c (by omega), pm_up_c (by omega), pm_up_c (by omega)]
            exact r3 k i q1 q2
      · rintro ⟨x2, U2⟩ o2 ⟨r1, r2, r3⟩ ho2
        dsimp only at r1 r2 r3
        rw [hx2 x2 U2] at ho2
        by_cases c2 : U src 6 ≤ x2
        · rw [if_pos c2] at ho2
          exact ⟨(0, U2), (Sum.inr.inj ho2).symm, rfl, r1, r2, r3⟩
        · rw [if_neg c2] at ho2
          exact absurd ho2 (by simp)
      · dsimp only
        by_cases e1 : k = dst
        · subst e1
          rw [pm_up_i (q2 rfl).2]
          exact p2 _ i q1 q2
        · rw [pm_up_c e1]
          exact p2 k i q1 q2
    · rw [if_neg c] at b0
      rw [b0] at ho
      exact absurd ho (by simp)
  · by_cases e1 : k = dst
    · subst e1
      exact pm_up_i (q2 rfl).1
    · exact pm_up_c e1
/-- the reference's image: what it keeps -/
theorem im_to (a : Int) (W : pm_M) (h0 : 0 ≤ a) (h2 : a ≤ 2) : ∃ Z, F_X12_image a W = (1, Z) ∧ (∀ k i, k ≠ 104 → k ≠ 106 → Z k i = pm_up (pm_up (pm_up W 102 a.toNat 1) 103 a.toNat (W 90 23)) 105 a.toNat (W 90 25) k i) := by
  have e := F_X12_image_eq a W
  have hin : F_X12_in a 0 2 W = (1, W) := (nf_in a 0 2).1 ⟨h0, h2⟩
  simp only [pf_let] at e
  replace e := e.trans (pf_call_eq hin)
  replace e := e.trans (if_pos (by decide))
  obtain ⟨U0, hU0⟩ : ∃ U, U = pm_up (pm_up (pm_up W 102 a.toNat 1) 103 a.toNat (W 90 23)) 105 a.toNat (W 90 25) := ⟨_, rfl⟩
  rw [← hU0] at e ⊢
  obtain ⟨B, hB, e⟩ := pf_loop e
  have hBx : ∀ (x : Int) (U : pm_M), _ := fun x U => congrFun hB (x, U)
  simp only [] at hBx
  have key := pf_val_ind (d := ((0 : Int), W)) (b := B) (fun s => ∀ k i, k ≠ 104 → k ≠ 106 → s.2 k i = U0 k i) (fun o => o.1 = 1 ∧ ∀ k i, k ≠ 104 → k ≠ 106 → o.2 k i = U0 k i) (fun s => (40 - s.1).toNat) ?_ ?_ (0, U0) (fun k i _ _ => rfl)
  · obtain ⟨o, ho⟩ : ∃ o, pf_val ((0 : Int), W) B (0, U0) = o := ⟨_, rfl⟩
    rw [ho] at key e
    obtain ⟨z, Z⟩ := o
    obtain ⟨k1, k2⟩ := key
    have k1 : z = 1 := k1
    subst k1
    exact ⟨Z, e, k2⟩
  · rintro ⟨x, U⟩ s1 p hs
    dsimp only at p
    have b0 := hBx x U
    by_cases c : 40 ≤ x
    · rw [if_pos c] at b0
      obtain ⟨B2, hB2, b1⟩ := pf_loop b0
      have hx2 : ∀ (x : Int) (U : pm_M), _ := fun x U => congrFun hB2 (x, U)
      simp only [] at hx2
      have key2 := pf_val_ind (d := (Sum.inr ((0 : Int), W) : (Int × pm_M) ⊕ (Int × pm_M))) (b := B2) (fun _ => True) (fun o => ∃ w, o = Sum.inr w) (fun s => (300 - s.1).toNat) ?_ ?_ (0, U) trivial
      · obtain ⟨w, hw⟩ := key2
        rw [hw] at b1
        rw [b1] at hs
        exact absurd hs (by simp)
      · rintro ⟨x2, U2⟩ s2 - hs2
        rw [hx2 x2 U2] at hs2
        by_cases c2 : 300 ≤ x2
        · rw [if_pos c2] at hs2
          exact absurd hs2 (by simp)
        · rw [if_neg c2] at hs2
          have q := Sum.inl.inj hs2
          rw [← q]
          exact ⟨trivial, by show (300 - (x2 + 1)).toNat < (300 - x2).toNat; omega⟩
      · rintro ⟨x2, U2⟩ o - ho
        rw [hx2 x2 U2] at ho
        by_cases c2 : 300 ≤ x2
        · rw [if_pos c2] at ho
          exact ⟨_, (Sum.inr.inj ho).symm⟩
        · rw [if_neg c2] at ho
          exact absurd ho (by simp)
    · rw [if_neg c] at b0
      rw [b0] at hs
      have q := Sum.inl.inj hs
      rw [← q]
      refine ⟨fun k i q1 q2 => ?_, by show (40 - (x + 1)).toNat < (40 - x).toNat; omega⟩
      dsimp only
      rw [pm_up_c q1]
      exact p k i q1 q2
  · rintro ⟨x, U⟩ o p ho
    dsimp only at p
    have b0 := hBx x U
    by_cases c : 40 ≤ x
    · rw [if_pos c] at b0
      obtain ⟨B2, hB2, b1⟩ := pf_loop b0
      have hx2 : ∀ (x : Int) (U : pm_M), _ := fun x U => congrFun hB2 (x, U)
      simp only [] at hx2
      have key2 := pf_val_ind (d := (Sum.inr ((0 : Int), W) : (Int × pm_M) ⊕ (Int × pm_M))) (b := B2) (fun s => ∀ k i, k ≠ 104 → k ≠ 106 → s.2 k i = U0 k i) (fun o => ∃ w : Int × pm_M, o = Sum.inr w ∧ w.1 = 1 ∧ ∀ k i, k ≠ 104 → k ≠ 106 → w.2 k i = U0 k i) (fun s => (300 - s.1).toNat) ?_ ?_ (0, U) p
      · obtain ⟨w, hw, w1, w2⟩ := key2
        rw [hw] at b1
        rw [b1] at ho
        have q := Sum.inr.inj ho
        rw [← q]
        exact ⟨w1, w2⟩
      · rintro ⟨x2, U2⟩ s2 r hs2
        dsimp only at r
        rw [hx2 x2 U2] at hs2
        by_cases c2 : 300 ≤ x2
        · rw [if_pos c2] at hs2
          exact absurd hs2 (by simp)
        · rw [if_neg c2] at hs2
          have q := Sum.inl.inj hs2
          rw [← q]
          refine ⟨fun k i q1 q2 => ?_, by show (300 - (x2 + 1)).toNat < (300 - x2).toNat; omega⟩
          dsimp only
          rw [pm_up_c q2]
          exact r k i q1 q2
      · rintro ⟨x2, U2⟩ o2 r ho2
        dsimp only at r
        rw [hx2 x2 U2] at ho2
        by_cases c2 : 300 ≤ x2
        · rw [if_pos c2] at ho2
          exact ⟨(1, U2), (Sum.inr.inj ho2).symm, rfl, r⟩
        · rw [if_neg c2] at ho2
          exact absurd ho2 (by simp)
    · rw [if_neg c] at b0
      rw [b0] at ho
      exact absurd ho (by simp)
/-- the reference goes back: what it takes -/
theorem im_back (a : Int) (W : pm_M) (h0 : 0 ≤ a) (h2 : a ≤ 2) (hw : ¬ W 102 a.toNat = 0) : ∃ Z, F_X12_back a W = (1, Z) ∧ (∀ k i, k ≠ 100 → k ≠ 101 → Z k i = pm_up (pm_up W 90 23 (W 103 a.toNat)) 90 25 (W 105 a.toNat) k i) := by
  have e := F_X12_back_eq a W
  have hin : F_X12_in a 0 2 W = (1, W) := (nf_in a 0 2).1 ⟨h0, h2⟩
  simp only [pf_let] at e
  replace e := e.trans (pf_call_eq hin)
  replace e := e.trans (if_neg (by decide))
  replace e := e.trans (if_pos hw)
  obtain ⟨U0, hU0⟩ : ∃ U, U = pm_up (pm_up W 90 23 (W 103 a.toNat)) 90 25 (W 105 a.toNat) := ⟨_, rfl⟩
  rw [← hU0] at e ⊢
  obtain ⟨B, hB, e⟩ := pf_loop e
  have hBx : ∀ (x : Int) (U : pm_M), _ := fun x U => congrFun hB (x, U)
  simp only [] at hBx
  have key := pf_val_ind (d := ((0 : Int), W)) (b := B) (fun s => ∀ k i, k ≠ 100 → k ≠ 101 → s.2 k i = U0 k i) (fun o => o.1 = 1 ∧ ∀ k i, k ≠ 100 → k ≠ 101 → o.2 k i = U0 k i) (fun s => (40 - s.1).toNat) ?_ ?_ (0, U0) (fun k i _ _ => rfl)
  · obtain ⟨o, ho⟩ : ∃ o, pf_val ((0 : Int), W) B (0, U0) = o := ⟨_, rfl⟩
    rw [ho] at key e
    obtain ⟨z, Z⟩ := o
    obtain ⟨k1, k2⟩ := key
    have k1 : z = 1 := k1
    subst k1
    exact ⟨Z, e, k2⟩
  · rintro ⟨x, U⟩ s1 p hs
    dsimp only at p
    have b0 := hBx x U
    by_cases c : 40 ≤ x
    · rw [if_pos c] at b0
      obtain ⟨B2, hB2, b1⟩ := pf_loop b0
      have hx2 : ∀ (x : Int) (U : pm_M), _ := fun x U => congrFun hB2 (x, U)
      simp only [] at hx2
      have key2 := pf_val_ind (d := (Sum.inr ((0 : Int), W) : (Int × pm_M) ⊕ (Int × pm_M))) (b := B2) (fun _ => True) (fun o => ∃ w, o = Sum.inr w) (fun s => (300 - s.1).toNat) ?_ ?_ (0, U) trivial
      · obtain ⟨w, hw⟩ := key2
        rw [hw] at b1
        rw [b1] at hs
        exact absurd hs (by simp)
      · rintro ⟨x2, U2⟩ s2 - hs2
        rw [hx2 x2 U2] at hs2
        by_cases c2 : 300 ≤ x2
        · rw [if_pos c2] at hs2
          exact absurd hs2 (by simp)
        · rw [if_neg c2] at hs2
          have q := Sum.inl.inj hs2
          rw [← q]
          exact ⟨trivial, by show (300 - (x2 + 1)).toNat < (300 - x2).toNat; omega⟩
      · rintro ⟨x2, U2⟩ o - ho
        rw [hx2 x2 U2] at ho
        by_cases c2 : 300 ≤ x2
        · rw [if_pos c2] at ho
          exact ⟨_, (Sum.inr.inj ho).symm⟩
        · rw [if_neg c2] at ho
          exact absurd ho (by simp)
    · rw [if_neg c] at b0
      rw [b0] at hs
      have q := Sum.inl.inj hs
      rw [← q]
      refine ⟨fun k i q1 q2 => ?_, by show (40 - (x + 1)).toNat < (40 - x).toNat; omega⟩
      dsimp only
      rw [pm_up_c q1]
      exact p k i q1 q2
  · rintro ⟨x, U⟩ o p ho
    dsimp only at p
    have b0 := hBx x U
    by_cases c : 40 ≤ x
    · rw [if_pos c] at b0
      obtain ⟨B2, hB2, b1⟩ := pf_loop b0
      have hx2 : ∀ (x : Int) (U : pm_M), _ := fun x U => congrFun hB2 (x, U)
      simp only [] at hx2
      have key2 := pf_val_ind (d := (Sum.inr ((0 : Int), W) : (Int × pm_M) ⊕ (Int × pm_M))) (b := B2) (fun s => ∀ k i, k ≠ 100 → k ≠ 101 → s.2 k i = U0 k i) (fun o => ∃ w : Int × pm_M, o = Sum.inr w ∧ w.1 = 1 ∧ ∀ k i, k ≠ 100 → k ≠ 101 → w.2 k i = U0 k i) (fun s => (300 - s.1).toNat) ?_ ?_ (0, U) p
      · obtain ⟨w, hw, w1, w2⟩ := key2
        rw [hw] at b1
        rw [b1] at ho
        have q := Sum.inr.inj ho
        rw [← q]
        exact ⟨w1, w2⟩
      · rintro ⟨x2, U2⟩ s2 r hs2
        dsimp only at r
        rw [hx2 x2 U2] at hs2
        by_cases c2 : 300 ≤ x2
        · rw [if_pos c2] at hs2
          exact absurd hs2 (by simp)
        · rw [if_neg c2] at hs2
          have q := Sum.inl.inj hs2
          rw [← q]
          refine ⟨fun k i q1 q2 => ?_, by show (300 - (x2 + 1)).toNat < (300 - x2).toNat; omega⟩
          dsimp only
          rw [pm_up_c q2]
          exact r k i q1 q2
      · rintro ⟨x2, U2⟩ o2 r ho2
        dsimp only at r
        rw [hx2 x2 U2] at ho2
        by_cases c2 : 300 ≤ x2
        · rw [if_pos c2] at ho2
          exact ⟨(1, U2), (Sum.inr.inj ho2).symm, rfl, r⟩
        · rw [if_neg c2] at ho2
          exact absurd ho2 (by simp)
    · rw [if_neg c] at b0
      rw [b0] at ho
      exact absurd ho (by simp)
