/-! WHAT CHANGES the sheet, the scene and the rules: the two sides stay alike -/
theorem rq.im {V W V' W' : pm_M} (h : rq V W) (m : Nat) (hm : m < 3) (hC : ∀ k i, sq_nd k i → k ≠ 15 + 10 * m → V' k i = V k i) (t : V' (15 + 10 * m) 0 = 1) (p : V' (15 + 10 * m) 1 = V 4 1) (n : V' (15 + 10 * m) 6 = V 4 6) (f : ∀ i, [16, 19, 20, 21, 23, 25, 35].contains i = true → W' 90 i = W 90 i) (c : ∀ k, [97, 98, 99].contains k = true → W' k = W k) (r0 : W' 102 m = 1) (r1 : W' 103 m = W 90 23) (r2 : W' 105 m = W 90 25) (ro : ∀ j, j ≠ m → W' 102 j = W 102 j ∧ W' 103 j = W 103 j ∧ W' 105 j = W 105 j) : rq V' W' := by
  obtain ⟨h1, h2, h3, h4, h5, h6, h7⟩ := h
  have e8 := hC 0 8 (by unfold sq_nd; omega) (by omega)
  have e9 := hC 0 9 (by unfold sq_nd; omega) (by omega)
  have e10 := hC 0 10 (by unfold sq_nd; omega) (by omega)
  have e11 := hC 0 11 (by unfold sq_nd; omega) (by omega)
  have cell : ∀ k, 45 ≤ k → k ≤ 56 → V' k = V k := fun k q1 q2 => funext fun i => hC k i (by unfold sq_nd; omega) (by omega)
  refine ⟨?_, ?_, ?_, ?_, ?_, ?_, ?_⟩
  · unfold sq_cc
    rw [e8, e9]
    exact h1
  · unfold sq_cr
    rw [e10, e11]
    exact h2
  · rw [e8]
    unfold sq_cc at h1
    exact h3.eq (cell _ (by omega) (by omega)) (cell _ (by omega) (by omega)) (cell _ (by omega) (by omega)) (cell _ (by omega) (by omega)) (cell _ (by omega) (by omega)) (cell _ (by omega) (by omega)) (f 16 rfl) (f 19 rfl) (f 20 rfl) (f 21 rfl) (c 97 rfl) (c 98 rfl) (c 99 rfl)
  · rw [e10, f 35 rfl, ← h4]
    unfold sq_cr at h2
    exact hC _ 0 (by unfold sq_nd; omega) (by omega)
  · rw [hC 4 1 (by unfold sq_nd; omega) (by omega), f 23 rfl]
    exact h5
  · rw [hC 4 6 (by unfold sq_nd; omega) (by omega), f 25 rfl]
    exact h6
  · intro j hj
    by_cases q : j = m
    · subst q
      rw [t, p, n, r0, r1, r2]
      exact ⟨rfl, fun _ => ⟨h5, h6⟩⟩
    · obtain ⟨o1, o2, o3⟩ := ro j q
      rw [hC (15 + 10 * j) 0 (by unfold sq_nd; omega) (by omega), hC (15 + 10 * j) 1 (by unfold sq_nd; omega) (by omega), hC (15 + 10 * j) 6 (by unfold sq_nd; omega) (by omega), o1, o2, o3]
      exact h7 j hj
/-- the class's image -/
theorem imC {V : pm_M} {s : Int} (hs : (V 0 8 = 45 ∧ V 45 0 = s) ∨ (V 0 8 = 51 ∧ V 51 0 = s)) (h0 : 0 < s) (a : Int) : (¬ (0 ≤ a ∧ a ≤ 2) → F_X11_image a V = (0, V)) ∧ ∀ m : Nat, m < 3 → a = (m : Int) → ∃ Z, F_X7_copyFrom (15 + 10 * m) 4 V = (0, Z) ∧ F_X11_image a V = (1, pm_up Z (15 + 10 * m) 0 1) := by
  have e := F_X11_image_eq a V
  replace e := e.trans (pf_call_eq ((nf_hasScene hs).1 h0))
  replace e := e.trans (if_neg (by decide))
  by_cases c1 : a < 0
  · replace e := e.trans (if_pos c1)
    exact ⟨fun _ => e, fun m hm q => by exfalso; omega⟩
  replace e := e.trans (if_neg c1)
  by_cases c2 : a < 3
  · replace e := e.trans (if_pos c2)
    refine ⟨fun q => by exfalso; omega, fun m hm q => ?_⟩
    obtain ⟨Z, z1, -⟩ := cp_from (15 + 10 * m) 4 V (by omega)
    refine ⟨Z, z1, ?_⟩
    rcases (show m = 0 ∨ m = 1 ∨ m = 2 by omega) with rfl | rfl | rfl
    · replace e := e.trans (if_pos (by omega))
      replace e := e.trans (pf_call_eq z1)
      exact e.trans (if_pos (by omega))
    · replace e := e.trans (if_neg (by omega))
      replace e := e.trans (if_pos (by omega))
      replace e := e.trans (pf_call_eq z1)
      replace e := e.trans (if_neg (by omega))
      exact e.trans (if_pos (by omega))
    · replace e := e.trans (if_neg (by omega))
      replace e := e.trans (if_neg (by omega))
      replace e := e.trans (pf_call_eq z1)
      replace e := e.trans (if_neg (by omega))
      exact e.trans (if_neg (by omega))
  · replace e := e.trans (if_neg c2)
    exact ⟨fun _ => e, fun m hm q => by exfalso; omega⟩
theorem mB_image {V W : pm_M} (hq : rq V W) (h0 : 2 ≤ W 90 16) (a : Int) : ∃ y V1 W1, F_X11_image a V = (y, V1) ∧ F_X12_image a W = (y, W1) ∧ rq V1 W1 := by
  obtain ⟨c0, c1⟩ := imC hq.hs (by omega) a
  by_cases c : 0 ≤ a ∧ a ≤ 2
  · obtain ⟨Z, z1, z2⟩ := c1 a.toNat (by omega) (by omega)
    obtain ⟨Z1, y1, y2, y3, y4⟩ := cp_from (15 + 10 * a.toNat) 4 V (by omega)
    obtain ⟨-, rfl⟩ := Prod.mk.inj (z1.symm.trans y1)
    obtain ⟨W1, w1, w2⟩ := im_to a W c.1 c.2
    refine ⟨1, _, W1, z2, w1, hq.im a.toNat (by omega) (fun k i q q1 => ?_) pm_up_s ?_ ?_ (fun i q => ?_) (fun k q => ?_) ?_ ?_ ?_ (fun j hj => ⟨?_, ?_, ?_⟩)⟩
    · rw [pm_up_c q1]
      exact y4 k i (by unfold sq_nd at q; omega) (fun q2 => absurd q2 q1)
    · rw [pm_up_i (by decide)]
      exact y2
    · rw [pm_up_i (by decide)]
      exact y3
    · rw [w2 90 i (by decide) (by decide), pm_up_c (by decide), pm_up_c (by decide), pm_up_c (by decide)]
    · funext i
      have hk : k = 97 ∨ k = 98 ∨ k = 99 := by
        simp only [List.contains_eq_mem, List.mem_cons, List.not_mem_nil, or_false, decide_eq_true_eq] at q
        exact q
      rw [w2 k i (by omega) (by omega), pm_up_c (by omega), pm_up_c (by omega), pm_up_c (by omega)]
    · rw [w2 102 _ (by decide) (by decide), pm_up_c (by decide), pm_up_c (by decide), pm_up_s]
    · rw [w2 103 _ (by decide) (by decide), pm_up_c (by decide), pm_up_s]
    · rw [w2 105 _ (by decide) (by decide), pm_up_s]
    · rw [w2 102 _ (by decide) (by decide), pm_up_c (by decide), pm_up_c (by decide), pm_up_i hj]
    · rw [w2 103 _ (by decide) (by decide), pm_up_c (by decide), pm_up_i hj, pm_up_c (by decide)]
    · rw [w2 105 _ (by decide) (by decide), pm_up_i hj, pm_up_c (by decide), pm_up_c (by decide)]
  · have f := F_X12_image_eq a W
    simp only [pf_let] at f
    replace f := f.trans (pf_call_eq ((nf_in a 0 2).2 c))
    replace f := f.trans (if_neg (by decide))
    exact ⟨0, V, W, c0 c, f, hq⟩
/-- the class goes back -/
theorem bkC {V : pm_M} (a : Int) : (¬ (0 ≤ a ∧ a ≤ 2) → F_X11_back a V = (0, V)) ∧ ∀ m : Nat, m < 3 → a = (m : Int) → (V (15 + 10 * m) 0 = 0 → F_X11_back a V = (0, V)) ∧ (¬ V (15 + 10 * m) 0 = 0 → ∃ Z, F_X7_copyFrom 4 (15 + 10 * m) V = (0, Z) ∧ F_X11_back a V = (1, Z)) := by
  have e := F_X11_back_eq a V
  simp only [pf_let] at e
  by_cases c1 : a < 0
  · replace e := e.trans (if_pos c1)
    exact ⟨fun _ => e, fun m hm q => by exfalso; omega⟩
  replace e := e.trans (if_neg c1)
  by_cases c2 : 3 ≤ a
  · replace e := e.trans (if_pos c2)
    exact ⟨fun _ => e, fun m hm q => by exfalso; omega⟩
  replace e := e.trans (if_neg c2)
  refine ⟨fun q => by exfalso; omega, fun m hm q => ?_⟩
  obtain ⟨Z, z1, -⟩ := cp_from 4 (15 + 10 * m) V (by omega)
  rcases (show m = 0 ∨ m = 1 ∨ m = 2 by omega) with rfl | rfl | rfl
  · replace e := e.trans (if_pos (by omega))
    refine ⟨fun h => e.trans (if_neg (fun n => n h)), fun h => ⟨Z, z1, ?_⟩⟩
    replace e := e.trans (if_pos h)
    replace e := e.trans (if_pos (by omega))
    exact e.trans (pf_call_eq z1)
  · replace e := e.trans (if_neg (by omega))
    replace e := e.trans (if_pos (by omega))
    refine ⟨fun h => e.trans (if_neg (fun n => n h)), fun h => ⟨Z, z1, ?_⟩⟩
    replace e := e.trans (if_pos h)
    replace e := e.trans (if_neg (by omega))
    replace e := e.trans (if_pos (by omega))
    exact e.trans (pf_call_eq z1)
  · replace e := e.trans (if_neg (by omega))
    replace e := e.trans (if_neg (by omega))
    refine ⟨fun h => e.trans (if_neg (fun n => n h)), fun h => ⟨Z, z1, ?_⟩⟩
    replace e := e.trans (if_pos h)
    replace e := e.trans (if_neg (by omega))
    replace e := e.trans (if_neg (by omega))
    exact e.trans (pf_call_eq z1)
theorem mB_back {V W : pm_M} (hq : rq V W) (hI : ∀ m : Nat, m < 3 → W 102 m = 0 ∨ W 102 m = 1) (a : Int) : ∃ y V1 W1, F_X11_back a V = (y, V1) ∧ F_X12_back a W = (y, W1) ∧ rq V1 W1 := by
  obtain ⟨c0, c1⟩ := bkC (V := V) a
  have f := F_X12_back_eq a W
  simp only [pf_let] at f
  by_cases c : 0 ≤ a ∧ a ≤ 2
  · replace f := f.trans (pf_call_eq ((nf_in a 0 2).1 c))
    replace f := f.trans (if_neg (by decide))
    obtain ⟨d0, d1⟩ := c1 a.toNat (by omega) (by omega)
    obtain ⟨i0, i1⟩ := hq.2.2.2.2.2.2 a.toNat (by omega)
    by_cases q : W 102 a.toNat = 0
    · replace f := f.trans (if_neg (fun n => n q))
      exact ⟨0, V, W, d0 (i0.trans q), f, hq⟩
    · obtain ⟨Z, z1, z2⟩ := d1 (fun n => q (i0.symm.trans n))
      obtain ⟨Z1, y1, y2, y3, y4⟩ := cp_from 4 (15 + 10 * a.toNat) V (by omega)
      obtain ⟨-, rfl⟩ := Prod.mk.inj (z1.symm.trans y1)
      obtain ⟨W1, w1, w2⟩ := im_back a W c.1 c.2 q
      have h1 : W 102 a.toNat = 1 := by
        rcases hI a.toNat (by omega) with h | h
        · exact absurd h q
        · exact h
      obtain ⟨j1, j2⟩ := i1 h1
      refine ⟨1, Z, W1, z2, w1, hq.cnt (fun k i q1 q2 => ?_) ?_ ?_ (fun i q1 => ?_) (fun k q1 => ?_)⟩
      · exact y4 k i (by unfold sq_nd at q1; omega) (fun q3 => absurd q3 q2)
      · rw [y2, j1, w2 90 23 (by decide) (by decide), pm_up_i (by decide), pm_up_s]
      · rw [y3, j2, w2 90 25 (by decide) (by decide), pm_up_s]
      · have hk : i = 16 ∨ i = 19 ∨ i = 20 ∨ i = 21 ∨ i = 35 := by
          simp only [List.contains_eq_mem, List.mem_cons, List.not_mem_nil, or_false, decide_eq_true_eq] at q1
          exact q1
        rw [w2 90 i (by decide) (by decide), pm_up_i (by omega), pm_up_i (by omega)]
      · funext i
        have hk : k = 97 ∨ k = 98 ∨ k = 99 ∨ k = 102 ∨ k = 103 ∨ k = 105 := by
          simp only [List.contains_eq_mem, List.mem_cons, List.not_mem_nil, or_false, decide_eq_true_eq] at q1
          exact q1
        rw [w2 k i (by omega) (by omega), pm_up_c (by omega), pm_up_c (by omega)]
  · replace f := f.trans (pf_call_eq ((nf_in a 0 2).2 c))
    replace f := f.trans (if_pos (by decide))
    exact ⟨0, V, W, c0 c, f, hq⟩
/-- a reading that fails leaves the current scene, or the current rules -/
theorem rq.fl {V V1 W : pm_M} {sc : Nat} (h : rq V W) (h9 : V 0 9 = (sc : Int)) (e : ∀ k i, sq_nd k i → ¬ (sc ≤ k ∧ k ≤ sc + 5) → V1 k i = V k i) : rq V1 W := by
  have hcc := h.1
  unfold sq_cc at hcc
  have hs : sc = 45 ∨ sc = 51 := by omega
  have e8 : V1 0 8 = V 0 8 := e 0 8 (by unfold sq_nd; omega) (by omega)
  have e9 : V1 0 9 = V 0 9 := e 0 9 (by unfold sq_nd; omega) (by omega)
  have e10 : V1 0 10 = V 0 10 := e 0 10 (by unfold sq_nd; omega) (by omega)
  have e11 : V1 0 11 = V 0 11 := e 0 11 (by unfold sq_nd; omega) (by omega)
  obtain ⟨o1, o2, o3, o4, o5, o6, o7⟩ := h
  refine ⟨?_, ?_, ?_, ?_, ?_, ?_, ?_⟩
  · unfold sq_cc
    rw [e8, e9]
    exact hcc
  · unfold sq_cr at o2 ⊢
    rw [e10, e11]
    exact o2
  · rw [e8]
    have cell : ∀ k, ¬ (sc ≤ k ∧ k ≤ sc + 5) → 45 ≤ k → k ≤ 56 → V1 k = V k := fun k q0 q1 q2 => funext fun i => e k i (by unfold sq_nd; omega) q0
    exact o3.eq (cell _ (by omega) (by omega) (by omega)) (cell _ (by omega) (by omega) (by omega)) (cell _ (by omega) (by omega) (by omega)) (cell _ (by omega) (by omega) (by omega)) (cell _ (by omega) (by omega) (by omega)) (cell _ (by omega) (by omega) (by omega)) rfl rfl rfl rfl rfl rfl rfl
  · rw [e10, ← o4]
    unfold sq_cr at o2
    exact e _ 0 (by unfold sq_nd; omega) (by omega)
  · rw [← o5]
    exact e 4 1 (by unfold sq_nd; omega) (by omega)
  · rw [← o6]
    exact e 4 6 (by unfold sq_nd; omega) (by omega)
  · intro m hm
    rw [e (15 + 10 * m) 0 (by unfold sq_nd; omega) (by omega), e (15 + 10 * m) 1 (by unfold sq_nd; omega) (by omega), e (15 + 10 * m) 6 (by unfold sq_nd; omega) (by omega)]
    exact o7 m hm
theorem rq.flr {V V1 W : pm_M} {rc : Nat} (h : rq V W) (h11 : V 0 11 = (rc : Int)) (e : ∀ k i, sq_nd k i → k ≠ rc → V1 k i = V k i) : rq V1 W := by
  obtain ⟨o1, o2, o3, o4, o5, o6, o7⟩ := h
  have hr : rc = 57 ∨ rc = 63 := by
    unfold sq_cr at o2
    omega
  have e8 : V1 0 8 = V 0 8 := e 0 8 (by unfold sq_nd; omega) (by omega)
  have e9 : V1 0 9 = V 0 9 := e 0 9 (by unfold sq_nd; omega) (by omega)
  have e10 : V1 0 10 = V 0 10 := e 0 10 (by unfold sq_nd; omega) (by omega)
  have e11 : V1 0 11 = V 0 11 := e 0 11 (by unfold sq_nd; omega) (by omega)
  refine ⟨?_, ?_, ?_, ?_, ?_, ?_, ?_⟩
  · unfold sq_cc at o1 ⊢
    rw [e8, e9]
    exact o1
  · unfold sq_cr at o2 ⊢
    rw [e10, e11]
    exact o2
  · rw [e8]
    unfold sq_cc at o1
    have cell : ∀ k, 45 ≤ k → k ≤ 56 → V1 k = V k := fun k q1 q2 => funext fun i => e k i (by unfold sq_nd; omega) (by omega)
    exact o3.eq (cell _ (by omega) (by omega)) (cell _ (by omega) (by omega)) (cell _ (by omega) (by omega)) (cell _ (by omega) (by omega)) (cell _ (by omega) (by omega)) (cell _ (by omega) (by omega)) rfl rfl rfl rfl rfl rfl rfl
  · rw [e10, ← o4]
    unfold sq_cr at o2
    exact e _ 0 (by unfold sq_nd; omega) (by omega)
  · rw [← o5]
    exact e 4 1 (by unfold sq_nd; omega) (by omega)
  · rw [← o6]
    exact e 4 6 (by unfold sq_nd; omega) (by omega)
  · intro m hm
    rw [e (15 + 10 * m) 0 (by unfold sq_nd; omega) (by omega), e (15 + 10 * m) 1 (by unfold sq_nd; omega) (by omega), e (15 + 10 * m) 6 (by unfold sq_nd; omega) (by omega)]
    exact o7 m hm
/-- a scene taken -/
theorem rq.sc {V W V' W' Vr Wr : pm_M} {sc : Nat} (h : rq V W) (h9 : V 0 9 = (sc : Int)) (hS : sm_S sc Vr Wr) (n2 : 2 ≤ Vr sc 0) (n4 : 1 ≤ Vr sc 4) (n6 : 1 ≤ Vr sc 6) (k : sq_keep sc V' Vr) (e8 : V' 0 8 = (sc : Int)) (e9 : V' 0 9 = V 0 8) (e10 : V' 0 10 = V 0 10) (e11 : V' 0 11 = V 0 11) (e57 : V' 57 0 = V 57 0) (e63 : V' 63 0 = V 63 0) (e41 : V' 4 1 = 1) (e46 : V' 4 6 = 0) (i0 : V' 15 0 = 0) (i1 : V' 25 0 = 0) (i2 : V' 35 0 = 0) (d16 : W' 90 16 = Wr 90 6) (d21 : W' 90 21 = Wr 90 13) (d23 : W' 90 23 = 1) (d25 : W' 90 25 = 0) (d19 : W' 90 19 = (if Wr 90 11 = -1 then 16 else Wr 90 11)) (d20 : W' 90 20 = (if Wr 90 11 = -1 then 99 else Wr 90 12)) (d35 : W' 90 35 = W 90 35) (c97 : ∀ q : Nat, q < 27 → W' 97 q = Wr 93 q) (c98 : ∀ q : Nat, q < 4 → W' 98 q = Wr 95 q) (c99 : ∀ q : Nat, q < 36 → W' 99 q = Wr 96 q) (c102 : ∀ q : Nat, q < 3 → W' 102 q = 0) : rq V' W' := by
  obtain ⟨o1, o2, o3, o4, o5, o6, o7⟩ := h
  have hs : sc = 45 ∨ sc = 51 := by
    unfold sq_cc at o1
    omega
  obtain ⟨k0, k1, k2, k3, k4, k5⟩ := k
  obtain ⟨⟨p1, p2, p3, p4⟩, s2, s3, s4, ⟨r1, r2, r3, r4⟩⟩ := hS
  refine ⟨?_, ?_, ?_, ?_, ?_, ?_, ?_⟩
  · unfold sq_cc at o1 ⊢
    rw [e8, e9]
    omega
  · unfold sq_cr at o2 ⊢
    rw [e10, e11]
    exact o2
  · rw [e8, Int.toNat_natCast]
    unfold sq_sc
    rw [k0, k1, k2, k3, k4, k5, d16, d21, d19, d20]
    refine ⟨p1, r1, fun j hj => ?_, fun _ => ?_, fun q hq => ?_⟩
    · obtain ⟨-, q1, q2, q3, -⟩ := p4 j hj
      rw [c97 (3 * j) (by omega), c97 (3 * j + 1) (by omega), c97 (3 * j + 2) (by omega)]
      exact ⟨q1, q2, q3⟩
    · rw [c98 0 (by decide), c98 1 (by decide), c98 2 (by decide), c98 3 (by decide)]
      unfold sm_S2 at s2
      unfold sm_S3 at s3
      unfold sm_S4 at s4
      rcases s2 with ⟨-, q⟩ | ⟨-, q1, q2⟩
      · omega
      · rcases s3 with ⟨-, q⟩ | ⟨-, q3, q4⟩
        · omega
        · rcases s4 with ⟨q5, -, q6, q7⟩ | ⟨q5, -, -, q6, q7⟩
          · rw [if_pos q5, if_pos q5]
            exact ⟨q1, q2, q3, q4, q6, q7⟩
          · rw [if_neg (by omega), if_neg (by omega)]
            exact ⟨q1, q2, q3, q4, q6, q7⟩
    · obtain ⟨q1, q2, q3, q4, q5, q6, q7, q8⟩ := r4 q hq
      rw [c99 (3 * q) (by omega), c99 (3 * q + 1) (by omega), c99 (3 * q + 2) (by omega)]
      exact ⟨q1, q2, q3, q4, q5, q6, q7, q8⟩
  · rw [e10, d35, ← o4]
    unfold sq_cr at o2
    rcases o2 with ⟨q, -⟩ | ⟨q, -⟩
    · rw [q]
      exact e57
    · rw [q]
      exact e63
  · rw [e41, d23]
  · rw [e46, d25]
  · intro m hm
    have c := c102 m hm
    refine ⟨?_, fun q => by rw [c] at q; exact absurd q (by decide)⟩
    rw [c]
    rcases (show m = 0 ∨ m = 1 ∨ m = 2 by omega) with rfl | rfl | rfl
    · exact i0
    · exact i1
    · exact i2
/-- rules taken -/
theorem rq.ru {V W V' W' : pm_M} {rc : Nat} {l : Int} (h : rq V W) (h11 : V 0 11 = (rc : Int)) (e : ∀ k i, sq_nd k i → ¬ (k = 0 ∧ (i = 10 ∨ i = 11)) → k ≠ 57 → k ≠ 63 → V' k i = V k i) (e10 : V' 0 10 = (rc : Int)) (e11 : V' 0 11 = V 0 10) (er : V' rc 0 = l) (d35 : W' 90 35 = l) (f : ∀ i, [16, 19, 20, 21, 23, 25].contains i = true → W' 90 i = W 90 i) (c : ∀ k, [97, 98, 99, 102, 103, 105].contains k = true → W' k = W k) : rq V' W' := by
  obtain ⟨o1, o2, o3, o4, o5, o6, o7⟩ := h
  have e8 : V' 0 8 = V 0 8 := e 0 8 (by unfold sq_nd; omega) (by omega) (by omega) (by omega)
  have e9 : V' 0 9 = V 0 9 := e 0 9 (by unfold sq_nd; omega) (by omega) (by omega) (by omega)
  refine ⟨?_, ?_, ?_, ?_, ?_, ?_, ?_⟩
  · unfold sq_cc at o1 ⊢
    rw [e8, e9]
    exact o1
  · unfold sq_cr at o2 ⊢
    rw [e10, e11]
    omega
  · rw [e8]
    unfold sq_cc at o1
    have cell : ∀ k, 45 ≤ k → k ≤ 56 → V' k = V k := fun k q1 q2 => funext fun i => e k i (by unfold sq_nd; omega) (by omega) (by omega) (by omega)
    exact o3.eq (cell _ (by omega) (by omega)) (cell _ (by omega) (by omega)) (cell _ (by omega) (by omega)) (cell _ (by omega) (by omega)) (cell _ (by omega) (by omega)) (cell _ (by omega) (by omega)) (f 16 rfl) (f 19 rfl) (f 20 rfl) (f 21 rfl) (c 97 rfl) (c 98 rfl) (c 99 rfl)
  · rw [e10, Int.toNat_natCast, er, d35]
  · rw [e 4 1 (by unfold sq_nd; omega) (by omega) (by omega) (by omega), f 23 rfl]
    exact o5
  · rw [e 4 6 (by unfold sq_nd; omega) (by omega) (by omega) (by omega), f 25 rfl]
    exact o6
  · intro m hm
    rw [e (15 + 10 * m) 0 (by unfold sq_nd; omega) (by omega) (by omega) (by omega), e (15 + 10 * m) 1 (by unfold sq_nd; omega) (by omega) (by omega) (by omega), e (15 + 10 * m) 6 (by unfold sq_nd; omega) (by omega) (by omega) (by omega), c 102 rfl, c 103 rfl, c 105 rfl]
    exact o7 m hm
/-- what the law keeps: each side's own, and what is alike -/
def lw_I (V : pm_M) : Prop := lw_inv V ∧ rq V V
/-- at the start -/
theorem lw_rq0 {V : pm_M} (c : ∀ k j : Nat, k < 90 → j < pm_sz k → V k j = pm_v0 k j) (r : ∀ k j : Nat, 90 ≤ k → k < 118 → j < pm_sz k → V k j = pm_v0 k j) : rq V V := by
  have c8 : V 0 8 = 45 := c 0 8 (by decide) (by decide)
  have c9 : V 0 9 = 51 := c 0 9 (by decide) (by decide)
  have c10 : V 0 10 = 57 := c 0 10 (by decide) (by decide)
  have c11 : V 0 11 = 63 := c 0 11 (by decide) (by decide)
  have s0 : V 45 0 = 0 := c 45 0 (by decide) (by decide)
  have s10 : V 45 10 = 0 := c 45 10 (by decide) (by decide)
  have r16 : V 90 16 = 0 := r 90 16 (by decide) (by decide) (by decide)
  have r21 : V 90 21 = 0 := r 90 21 (by decide) (by decide) (by decide)
  have r23 : V 90 23 = 0 := r 90 23 (by decide) (by decide) (by decide)
  have r25 : V 90 25 = 0 := r 90 25 (by decide) (by decide) (by decide)
  have r35 : V 90 35 = 0 := r 90 35 (by decide) (by decide) (by decide)
  have l0 : V 57 0 = 0 := c 57 0 (by decide) (by decide)
  have p1 : V 4 1 = 0 := c 4 1 (by decide) (by decide)
  have p6 : V 4 6 = 0 := c 4 6 (by decide) (by decide)
  refine ⟨Or.inl ⟨c8, c9⟩, Or.inl ⟨c10, c11⟩, ?_, ?_, by rw [p1, r23], by rw [p6, r25], fun m hm => ?_⟩
  · rw [c8]
    show sq_sc 45 V V
    unfold sq_sc
    refine ⟨by rw [s0, r16], by rw [s10, r21], fun j hj => ?_, fun q => ?_, fun k hk => ?_⟩
    · rw [s0] at hj
      omega
    · rw [s0] at q
      omega
    · rw [s10] at hk
      omega
  · rw [c10]
    show V 57 0 = _
    rw [l0, r35]
  · have q : V 102 m = 0 := r 102 m (by decide) (by decide) hm
    refine ⟨?_, fun h => by rw [q] at h; exact absurd h (by decide)⟩
    rw [q]
    rcases (show m = 0 ∨ m = 1 ∨ m = 2 by omega) with rfl | rfl | rfl
    · exact c 15 0 (by decide) (by decide)
    · exact c 25 0 (by decide) (by decide)
    · exact c 35 0 (by decide) (by decide)
