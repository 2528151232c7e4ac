/-! IMAGES: what they hold -/
theorem im_data (a : Int) (W : pm_M) (h0 : 0 ≤ a) (h2 : a ≤ 2) {Z : pm_M} {z : Int} (hZ : F_X12_image a W = (z, Z)) : (∀ q : Nat, q < 40 → Z 104 (40 * a.toNat + q) = W 100 q) ∧ (∀ q : Nat, (q < 40 * a.toNat ∨ 40 * a.toNat + 40 ≤ q) → Z 104 q = W 104 q) ∧ (∀ q : Nat, q < 300 → Z 106 (300 * a.toNat + q) = W 101 q) ∧ (∀ q : Nat, (q < 300 * a.toNat ∨ 300 * a.toNat + 300 ≤ q) → Z 106 q = W 106 q) := by
  have e := hZ.symm.trans (F_X12_image_eq a W)
  have hin : F_X12_in a 0 2 W = (1, W) := (nf_in a 0 2).1 ⟨h0, h2⟩
  simp only [pf_let] at e
  replace e := e.trans (pf_call_eq hin)
  replace e := e.trans (if_pos (by decide))
  obtain ⟨B, hB, e⟩ := pf_loop e
  have hBx : ∀ (x : Int) (U : pm_M), _ := fun x U => congrFun hB (x, U)
  simp only [] at hBx
  have key := pf_val_ind2 (d := ((0 : Int), W)) (b := B) (fun s => 0 ≤ s.1 ∧ s.1 ≤ 40 ∧ (∀ q : Nat, s.2 100 q = W 100 q ∧ s.2 101 q = W 101 q ∧ s.2 106 q = W 106 q) ∧ (∀ q : Nat, (q : Int) < s.1 → s.2 104 (40 * a.toNat + q) = W 100 q) ∧ (∀ q : Nat, (q < 40 * a.toNat ∨ 40 * a.toNat + 40 ≤ q) → s.2 104 q = W 104 q)) (fun o => (∀ q : Nat, q < 40 → o.2 104 (40 * a.toNat + q) = W 100 q) ∧ (∀ q : Nat, (q < 40 * a.toNat ∨ 40 * a.toNat + 40 ≤ q) → o.2 104 q = W 104 q) ∧ (∀ q : Nat, q < 300 → o.2 106 (300 * a.toNat + q) = W 101 q) ∧ (∀ q : Nat, (q < 300 * a.toNat ∨ 300 * a.toNat + 300 ≤ q) → o.2 106 q = W 106 q)) (fun s => (40 - s.1).toNat) ?_ (0, pm_up (pm_up (pm_up W 102 a.toNat 1) 103 a.toNat (W 90 23)) 105 a.toNat (W 90 25)) ⟨Int.le_refl _, by dsimp only; omega, fun q => ⟨?_, ?_, ?_⟩, fun q q1 => absurd q1 (by dsimp only; omega), fun q _ => ?_⟩
  · rw [← e] at key
    exact key
  · rintro ⟨x, U⟩ ⟨p0, p9, p1, p2, p3⟩
    dsimp only at p0 p9 p1 p2 p3
    have b0 := hBx x U
    by_cases c : 40 ≤ x
    · rw [if_pos c] at b0
      obtain ⟨B2, hB2, b1⟩ := pf_loop b0
      have hx2 : ∀ (x : Int) (U : pm_M), _ := fun x U => congrFun hB2 (x, U)
      simp only [] at hx2
      have key2 := pf_val_ind2 (d := (Sum.inr ((0 : Int), W) : (Int × pm_M) ⊕ (Int × pm_M))) (b := B2) (fun s => 0 ≤ s.1 ∧ s.1 ≤ 300 ∧ (∀ q : Nat, s.2 101 q = W 101 q ∧ s.2 104 q = U 104 q) ∧ (∀ q : Nat, (q : Int) < s.1 → s.2 106 (300 * a.toNat + q) = W 101 q) ∧ (∀ q : Nat, (q < 300 * a.toNat ∨ 300 * a.toNat + 300 ≤ q) → s.2 106 q = W 106 q)) (fun o => ∃ w : Int × pm_M, o = Sum.inr w ∧ (∀ q : Nat, w.2 104 q = U 104 q) ∧ (∀ q : Nat, q < 300 → w.2 106 (300 * a.toNat + q) = W 101 q) ∧ (∀ q : Nat, (q < 300 * a.toNat ∨ 300 * a.toNat + 300 ≤ q) → w.2 106 q = W 106 q)) (fun s => (300 - s.1).toNat) ?_ (0, U) ⟨Int.le_refl _, by dsimp only; omega, fun q => ⟨(p1 q).2.1, rfl⟩, fun q q1 => absurd q1 (by dsimp only; omega), fun q _ => (p1 q).2.2⟩
      · obtain ⟨w, w1, w2, w3, w4⟩ := key2
        rw [w1] at b1
        exact Or.inr ⟨w, b1, fun q q1 => (w2 _).trans (p2 q (by omega)), fun q q1 => (w2 _).trans (p3 q q1), w3, w4⟩
      · rintro ⟨x2, U2⟩ ⟨r0, r9, r1, r2, r3⟩
        dsimp only at r0 r9 r1 r2 r3
        have b2 := hx2 x2 U2
        by_cases c2 : 300 ≤ x2
        · rw [if_pos c2] at b2
          exact Or.inr ⟨_, b2, _, rfl, fun q => (r1 q).2, fun q q1 => r2 q (by omega), r3⟩
        · rw [if_neg c2] at b2
          refine Or.inl ⟨_, b2, ⟨by dsimp only; omega, by dsimp only; omega, fun q => ?_, fun q q1 => ?_, fun q q1 => ?_⟩, by dsimp only; omega⟩
          · dsimp only
            rw [pm_up_c (by decide), pm_up_c (by decide)]
            exact r1 q
          · dsimp only at q1 ⊢
            rw [up_at]
            by_cases ej : q = x2.toNat
            · rw [if_pos (by omega), ej]
              exact (r1 _).1
            · rw [if_neg (by omega)]
              exact r2 q (by omega)
          · dsimp only
            rw [up_at, if_neg (by omega)]
            exact r3 q q1
    · rw [if_neg c] at b0
      refine Or.inl ⟨_, b0, ⟨by dsimp only; omega, by dsimp only; omega, fun q => ?_, fun q q1 => ?_, fun q q1 => ?_⟩, by dsimp only; omega⟩
      · dsimp only
        rw [pm_up_c (by decide), pm_up_c (by decide), pm_up_c (by decide)]
        exact p1 q
      · dsimp only at q1 ⊢
        rw [up_at]
        by_cases ej : q = x.toNat
        · rw [if_pos (by omega), ej]
          exact (p1 _).1
        · rw [if_neg (by omega)]
          exact p2 q (by omega)
      · dsimp only
        rw [up_at, if_neg (by omega)]
        exact p3 q q1
  · dsimp only
    rw [pm_up_c (by decide), pm_up_c (by decide), pm_up_c (by decide)]
  · dsimp only
    rw [pm_up_c (by decide), pm_up_c (by decide), pm_up_c (by decide)]
  · dsimp only
    rw [pm_up_c (by decide), pm_up_c (by decide), pm_up_c (by decide)]
  · dsimp only
    rw [pm_up_c (by decide), pm_up_c (by decide), pm_up_c (by decide)]
theorem bk_data (a : Int) (W : pm_M) (h0 : 0 ≤ a) (h2 : a ≤ 2) (hw : ¬ W 102 a.toNat = 0) {Z : pm_M} {z : Int} (hZ : F_X12_back a W = (z, Z)) : (∀ q : Nat, q < 40 → Z 100 q = W 104 (40 * a.toNat + q)) ∧ (∀ q : Nat, q < 300 → Z 101 q = W 106 (300 * a.toNat + q)) := by
  have e := hZ.symm.trans (F_X12_back_eq a W)
  have hin : F_X12_in a 0 2 W = (1, W) := (nf_in a 0 2).1 ⟨h0, h2⟩
  simp only [pf_let] at e
  replace e := e.trans (pf_call_eq hin)
  replace e := e.trans (if_neg (by decide))
  replace e := e.trans (if_pos hw)
  obtain ⟨B, hB, e⟩ := pf_loop e
  have hBx : ∀ (x : Int) (U : pm_M), _ := fun x U => congrFun hB (x, U)
  simp only [] at hBx
  have key := pf_val_ind2 (d := ((0 : Int), W)) (b := B) (fun s => 0 ≤ s.1 ∧ s.1 ≤ 40 ∧ (∀ q : Nat, s.2 104 q = W 104 q ∧ s.2 106 q = W 106 q) ∧ (∀ q : Nat, (q : Int) < s.1 → s.2 100 q = W 104 (40 * a.toNat + q))) (fun o => (∀ q : Nat, q < 40 → o.2 100 q = W 104 (40 * a.toNat + q)) ∧ (∀ q : Nat, q < 300 → o.2 101 q = W 106 (300 * a.toNat + q))) (fun s => (40 - s.1).toNat) ?_ (0, pm_up (pm_up W 90 23 (W 103 a.toNat)) 90 25 (W 105 a.toNat)) ⟨Int.le_refl _, by dsimp only; omega, fun q => ⟨?_, ?_⟩, fun q q1 => absurd q1 (by dsimp only; omega)⟩
  · rw [← e] at key
    exact key
  · rintro ⟨x, U⟩ ⟨p0, p9, p1, p2⟩
    dsimp only at p0 p9 p1 p2
    have b0 := hBx x U
    by_cases c : 40 ≤ x
    · rw [if_pos c] at b0
      obtain ⟨B2, hB2, b1⟩ := pf_loop b0
      have hx2 : ∀ (x : Int) (U : pm_M), _ := fun x U => congrFun hB2 (x, U)
      simp only [] at hx2
      have key2 := pf_val_ind2 (d := (Sum.inr ((0 : Int), W) : (Int × pm_M) ⊕ (Int × pm_M))) (b := B2) (fun s => 0 ≤ s.1 ∧ s.1 ≤ 300 ∧ (∀ q : Nat, s.2 106 q = W 106 q ∧ s.2 100 q = U 100 q) ∧ (∀ q : Nat, (q : Int) < s.1 → s.2 101 q = W 106 (300 * a.toNat + q))) (fun o => ∃ w : Int × pm_M, o = Sum.inr w ∧ (∀ q : Nat, w.2 100 q = U 100 q) ∧ (∀ q : Nat, q < 300 → w.2 101 q = W 106 (300 * a.toNat + q))) (fun s => (300 - s.1).toNat) ?_ (0, U) ⟨Int.le_refl _, by dsimp only; omega, fun q => ⟨(p1 q).2, rfl⟩, fun q q1 => absurd q1 (by dsimp only; omega)⟩
      · obtain ⟨w, w1, w2, w3⟩ := key2
        rw [w1] at b1
        exact Or.inr ⟨w, b1, fun q q1 => (w2 _).trans (p2 q (by omega)), w3⟩
      · rintro ⟨x2, U2⟩ ⟨r0, r9, r1, r2⟩
        dsimp only at r0 r9 r1 r2
        have b2 := hx2 x2 U2
        by_cases c2 : 300 ≤ x2
        · rw [if_pos c2] at b2
          exact Or.inr ⟨_, b2, _, rfl, fun q => (r1 q).2, fun q q1 => r2 q (by omega)⟩
        · rw [if_neg c2] at b2
          refine Or.inl ⟨_, b2, ⟨by dsimp only; omega, by dsimp only; omega, fun q => ?_, fun q q1 => ?_⟩, by dsimp only; omega⟩
          · dsimp only
            rw [pm_up_c (by decide), pm_up_c (by decide)]
            exact r1 q
          · dsimp only at q1 ⊢
            rw [up_at]
            by_cases ej : q = x2.toNat
            · rw [if_pos ej, (r1 _).1, show ((300 * a) + x2).toNat = 300 * a.toNat + q by omega]
            · rw [if_neg ej]
              exact r2 q (by omega)
    · rw [if_neg c] at b0
      refine Or.inl ⟨_, b0, ⟨by dsimp only; omega, by dsimp only; omega, fun q => ?_, fun q q1 => ?_⟩, by dsimp only; omega⟩
      · dsimp only
        rw [pm_up_c (by decide), pm_up_c (by decide)]
        exact p1 q
      · dsimp only at q1 ⊢
        rw [up_at]
        by_cases ej : q = x.toNat
        · rw [if_pos ej, (p1 _).1, show ((40 * a) + x).toNat = 40 * a.toNat + q by omega]
        · rw [if_neg ej]
          exact p2 q (by omega)
  · dsimp only
    rw [pm_up_c (by decide), pm_up_c (by decide)]
  · dsimp only
    rw [pm_up_c (by decide), pm_up_c (by decide)]
theorem mP_image {V W V1 W1 : pm_M} {y y2 : Int} (hq : rq V W) (hp : rp V W) (h0 : 2 ≤ W 90 16) (hb : V 4 1 ≤ 10) (hi : ∀ m : Nat, m < 3 → V (15 + 10 * m) 1 ≤ 10) (a : Int) (e : F_X11_image a V = (y, V1)) (f : F_X12_image a W = (y2, W1)) : rp V1 W1 := by
  obtain ⟨c0, c1⟩ := imC hq.hs (by omega) a
  by_cases c : 0 ≤ a ∧ a ≤ 2
  · obtain ⟨Z, z1, z2⟩ := c1 a.toNat (by omega) (by omega)
    obtain ⟨Z1, y1, y2, y3, y4⟩ := cp_from (15 + 10 * a.toNat) 4 V (by omega)
    obtain ⟨-, rfl⟩ := Prod.mk.inj (z1.symm.trans y1)
    obtain ⟨d1, -⟩ := cp_data (15 + 10 * a.toNat) 4 V (by omega) z1
    obtain ⟨W2, w1, w2⟩ := im_to a W c.1 c.2
    obtain ⟨-, rfl⟩ := Prod.mk.inj (w1.symm.trans f)
    obtain ⟨-, rfl⟩ := Prod.mk.inj (z2.symm.trans e)
    obtain ⟨g1, g2, -, -⟩ := im_data a W c.1 c.2 f
    have hm2 : a.toNat < 3 := by omega
    refine ⟨fun j t hj ht => ?_, fun m hm hw j t hj ht => ?_⟩
    · rw [pm_up_c (by omega), y4 4 1 (by omega) (by omega)] at hj
      rw [pm_up_c (by omega), y4 (5 + t) j (by omega) (by omega), w2 100 _ (by decide) (by decide), pm_up_c (by decide), pm_up_c (by decide), pm_up_c (by decide)]
      exact hp.1 j t hj ht
    · by_cases em : m = a.toNat
      · subst em
        rw [pm_up_i (by decide), y2] at hj
        rw [pm_up_c (by omega), g1 _ (by omega), show 16 + 10 * a.toNat + t = 15 + 10 * a.toNat + (1 + t) by omega, d1 (1 + t) j (by omega) (by omega) hj, show 4 + (1 + t) = 5 + t by omega, hp.1 j t hj ht, Nat.zero_add]
      · rw [w2 102 _ (by decide) (by decide), pm_up_c (by decide), pm_up_c (by decide), pm_up_i em] at hw
        rw [pm_up_c (by omega), y4 (15 + 10 * m) 1 (by omega) (by omega)] at hj
        have hj2 := hi m hm
        rw [pm_up_c (by omega), y4 (16 + 10 * m + t) j (by omega) (by omega), g2 _ (by omega)]
        exact hp.2 m hm hw j t hj ht
  · obtain ⟨-, rfl⟩ := Prod.mk.inj ((c0 c).symm.trans e)
    have f' := F_X12_image_eq a W
    simp only [pf_let] at f'
    replace f' := f'.trans (pf_call_eq ((nf_in a 0 2).2 c))
    replace f' := f'.trans (if_neg (by decide))
    obtain ⟨-, rfl⟩ := Prod.mk.inj (f'.symm.trans f)
    exact hp
theorem mP_back {V W V1 W1 : pm_M} {y y2 : Int} (hq : rq V W) (hp : rp V W) (hI : ∀ m : Nat, m < 3 → W 102 m = 0 ∨ W 102 m = 1) (hi : ∀ m : Nat, m < 3 → V (15 + 10 * m) 1 ≤ 10) (a : Int) (e : F_X11_back a V = (y, V1)) (f : F_X12_back a W = (y2, W1)) : rp V1 W1 := by
  obtain ⟨c0, c1⟩ := bkC (V := V) a
  by_cases c : 0 ≤ a ∧ a ≤ 2
  · have hm : a.toNat < 3 := by omega
    obtain ⟨c2, c3⟩ := c1 a.toNat hm (by omega)
    obtain ⟨t1, t2⟩ := hq.2.2.2.2.2.2 a.toNat hm
    by_cases cz : W 102 a.toNat = 0
    · obtain ⟨-, rfl⟩ := Prod.mk.inj ((c2 (t1.trans cz)).symm.trans e)
      have f' := F_X12_back_eq a W
      simp only [pf_let] at f'
      replace f' := f'.trans (pf_call_eq ((nf_in a 0 2).1 c))
      replace f' := f'.trans (if_neg (by decide))
      replace f' := f'.trans (if_neg (fun q => q cz))
      obtain ⟨-, rfl⟩ := Prod.mk.inj (f'.symm.trans f)
      exact hp
    · have cw : W 102 a.toNat = 1 := (hI a.toNat hm).resolve_left cz
      obtain ⟨Z, z1, z2⟩ := c3 (by rw [t1]; exact cz)
      obtain ⟨Z1, y1, y2, y3, y4⟩ := cp_from 4 (15 + 10 * a.toNat) V (by omega)
      obtain ⟨-, rfl⟩ := Prod.mk.inj (z1.symm.trans y1)
      obtain ⟨d1, -⟩ := cp_data 4 (15 + 10 * a.toNat) V (by omega) z1
      obtain ⟨W2, w1, w2⟩ := im_back a W c.1 c.2 cz
      obtain ⟨-, rfl⟩ := Prod.mk.inj (w1.symm.trans f)
      obtain ⟨-, rfl⟩ := Prod.mk.inj (z2.symm.trans e)
      obtain ⟨g1, -⟩ := bk_data a W c.1 c.2 cz f
      refine ⟨fun j t hj ht => ?_, fun m hm2 hw j t hj ht => ?_⟩
      · rw [y2] at hj
        have hj2 := hi a.toNat hm
        rw [show 5 + t = 4 + (1 + t) by omega, d1 (1 + t) j (by omega) (by omega) hj, g1 _ (by omega), Nat.zero_add, show 15 + 10 * a.toNat + (1 + t) = 16 + 10 * a.toNat + t by omega]
        exact hp.2 _ hm cw j t hj ht
      · rw [w2 102 _ (by decide) (by decide), pm_up_c (by decide), pm_up_c (by decide)] at hw
        rw [y4 (15 + 10 * m) 1 (by omega) (by omega)] at hj
        rw [y4 (16 + 10 * m + t) j (by omega) (by omega), w2 104 _ (by decide) (by decide), pm_up_c (by decide), pm_up_c (by decide)]
        exact hp.2 m hm2 hw j t hj ht
  · obtain ⟨-, rfl⟩ := Prod.mk.inj ((c0 c).symm.trans e)
    have f' := F_X12_back_eq a W
    simp only [pf_let] at f'
    replace f' := f'.trans (pf_call_eq ((nf_in a 0 2).2 c))
    replace f' := f'.trans (if_pos (by decide))
    obtain ⟨-, rfl⟩ := Prod.mk.inj (f'.symm.trans f)
    exact hp
