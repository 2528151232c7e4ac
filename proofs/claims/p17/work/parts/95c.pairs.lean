/-! THE SMALL METHODS of both sides answer alike and keep what is alike; without a scene the class does nothing -/
theorem rq.cnt {V W V' W' : pm_M} (h : rq V W) (hC : ∀ k i, sq_nd k i → k ≠ 4 → V' k i = V k i) (hp : V' 4 1 = W' 90 23) (hn : V' 4 6 = W' 90 25) (f : ∀ i, [16, 19, 20, 21, 35].contains i = true → W' 90 i = W 90 i) (c : ∀ k, [97, 98, 99, 102, 103, 105].contains k = true → W' k = W k) : rq V' W' := by
  obtain ⟨h1, h2, h3, h4, h5, h6, h7⟩ := h
  have e8 := hC 0 8 (by unfold sq_nd; omega) (by decide)
  have e9 := hC 0 9 (by unfold sq_nd; omega) (by decide)
  have e10 := hC 0 10 (by unfold sq_nd; omega) (by decide)
  have e11 := hC 0 11 (by unfold sq_nd; omega) (by decide)
  have cell : ∀ k, 45 ≤ k → k ≤ 56 → V' k = V k := fun k q1 q2 => funext fun i => hC k i (by unfold sq_nd; omega) (by omega)
  refine ⟨?_, ?_, ?_, ?_, hp, hn, ?_⟩
  · unfold sq_cc
    rw [e8, e9]
    exact h1
  · unfold sq_cr
    rw [e10, e11]
    exact h2
  · rw [e8]
    unfold sq_cc at h1
    exact h3.eq (cell _ (by omega) (by omega)) (cell _ (by omega) (by omega)) (cell _ (by omega) (by omega)) (cell _ (by omega) (by omega)) (cell _ (by omega) (by omega)) (cell _ (by omega) (by omega)) (f 16 rfl) (f 19 rfl) (f 20 rfl) (f 21 rfl) (c 97 rfl) (c 98 rfl) (c 99 rfl)
  · rw [e10, f 35 rfl, ← h4]
    unfold sq_cr at h2
    exact hC _ 0 (by unfold sq_nd; omega) (by omega)
  · intro m hm
    rw [hC (15 + 10 * m) 0 (by unfold sq_nd; omega) (by omega), hC (15 + 10 * m) 1 (by unfold sq_nd; omega) (by omega), hC (15 + 10 * m) 6 (by unfold sq_nd; omega) (by omega), c 102 rfl, c 103 rfl, c 105 rfl]
    exact h7 m hm
set_option maxHeartbeats 40000000 in
theorem mB_sound {V W : pm_M} (hq : rq V W) (a1 a2 : Int) : ∃ y V1 W1, F_X11_sound a1 a2 V = (y, V1) ∧ F_X12_sound a1 a2 W = (y, W1) ∧ rq V1 W1 := by
  have hq0 := hq
  have hs := hq.hs
  obtain ⟨h1, h2, h3, h4, h5, h6, h7⟩ := hq
  rcases h1 with ⟨h8, -⟩ | ⟨h8, -⟩
  · skip
    rw [show (V 0 8).toNat = 45 by omega] at h3
    obtain ⟨s0, s10, sj, s4, -⟩ := h3
    have e := F_X11_sound_eq a1 a2 V
    by_cases c1 : 0 ≤ a1 ∧ a1 < W 90 16
    · replace e := e.trans (pf_call_eq ((nf_isSound (V := V) hs a1).1 c1))
      replace e := e.trans (if_pos (by decide))
      by_cases c3 : a2 < 0 ∨ 2 < a2
      · replace e := e.trans (if_pos c3)
        have f := F_X12_sound_eq a1 a2 W
        obtain ⟨u4, hu5⟩ : ∃ y, W 90 16 = y := ⟨_, rfl⟩
        replace f := f.trans (pf_let_eq hu5)
        by_cases c6 : 0 ≤ a1 ∧ a1 ≤ (u4 - 1)
        · replace f := f.trans (pf_call_eq ((nf_in (V := W) a1 0 (u4 - 1)).1 c6))
          replace f := f.trans (if_neg (by decide))
          by_cases c8 : 0 ≤ a2 ∧ a2 ≤ 2
          · replace f := f.trans (pf_call_eq ((nf_in (V := W) a2 0 2).1 c8))
            replace f := f.trans (if_neg (by decide))
            obtain ⟨u10, hu11⟩ : ∃ y, W 97 (((3 * a1) + a2) : Int).toNat = y := ⟨_, rfl⟩
            replace f := f.trans (pf_let_eq hu11)
            first | (exfalso; omega) | exact ⟨_, V, W, e, f.trans (congrArg (fun z => (z, W)) (show u10 = (-1) by omega)), hq0⟩ | (obtain ⟨g1, g2, g3⟩ := sj a1.toNat (by omega); replace g1 : V 46 a1.toNat = W 97 (3 * a1.toNat) := g1; replace g2 : V 47 a1.toNat = W 97 (3 * a1.toNat + 1) := g2; replace g3 : V 48 a1.toNat = W 97 (3 * a1.toNat + 2) := g3; rw [show (((3 * a1) + a2) : Int).toNat = 3 * a1.toNat by omega] at hu11; exact ⟨_, V, W, e, f.trans (congrArg (fun z => (z, W)) (show u10 = (-1) by omega)), hq0⟩) | (obtain ⟨g1, g2, g3⟩ := sj a1.toNat (by omega); replace g1 : V 46 a1.toNat = W 97 (3 * a1.toNat) := g1; replace g2 : V 47 a1.toNat = W 97 (3 * a1.toNat + 1) := g2; replace g3 : V 48 a1.toNat = W 97 (3 * a1.toNat + 2) := g3; rw [show (((3 * a1) + a2) : Int).toNat = 3 * a1.toNat + 1 by omega] at hu11; exact ⟨_, V, W, e, f.trans (congrArg (fun z => (z, W)) (show u10 = (-1) by omega)), hq0⟩) | (obtain ⟨g1, g2, g3⟩ := sj a1.toNat (by omega); replace g1 : V 46 a1.toNat = W 97 (3 * a1.toNat) := g1; replace g2 : V 47 a1.toNat = W 97 (3 * a1.toNat + 1) := g2; replace g3 : V 48 a1.toNat = W 97 (3 * a1.toNat + 2) := g3; rw [show (((3 * a1) + a2) : Int).toNat = 3 * a1.toNat + 2 by omega] at hu11; exact ⟨_, V, W, e, f.trans (congrArg (fun z => (z, W)) (show u10 = (-1) by omega)), hq0⟩)
          · replace f := f.trans (pf_call_eq ((nf_in (V := W) a2 0 2).2 c8))
            replace f := f.trans (if_pos (by decide))
            exact ⟨(-1), V, W, e, f, hq0⟩
        · replace f := f.trans (pf_call_eq ((nf_in (V := W) a1 0 (u4 - 1)).2 c6))
          replace f := f.trans (if_pos (by decide))
          exact ⟨(-1), V, W, e, f, hq0⟩
      · replace e := e.trans (if_neg c3)
        by_cases c12 : a2 = 0
        · replace e := e.trans (if_pos c12)
          replace e := e.trans (if_pos (by omega))
          obtain ⟨u13, hu14⟩ : ∃ y, V 46 (a1 : Int).toNat = y := ⟨_, rfl⟩
          replace e := e.trans (pf_let_eq hu14)
          have f := F_X12_sound_eq a1 a2 W
          obtain ⟨u15, hu16⟩ : ∃ y, W 90 16 = y := ⟨_, rfl⟩
          replace f := f.trans (pf_let_eq hu16)
          by_cases c17 : 0 ≤ a1 ∧ a1 ≤ (u15 - 1)
          · replace f := f.trans (pf_call_eq ((nf_in (V := W) a1 0 (u15 - 1)).1 c17))
            replace f := f.trans (if_neg (by decide))
            by_cases c19 : 0 ≤ a2 ∧ a2 ≤ 2
            · replace f := f.trans (pf_call_eq ((nf_in (V := W) a2 0 2).1 c19))
              replace f := f.trans (if_neg (by decide))
              obtain ⟨u21, hu22⟩ : ∃ y, W 97 (((3 * a1) + a2) : Int).toNat = y := ⟨_, rfl⟩
              replace f := f.trans (pf_let_eq hu22)
              first | (exfalso; omega) | exact ⟨_, V, W, e, f.trans (congrArg (fun z => (z, W)) (show u21 = u13 by omega)), hq0⟩ | (obtain ⟨g1, g2, g3⟩ := sj a1.toNat (by omega); replace g1 : V 46 a1.toNat = W 97 (3 * a1.toNat) := g1; replace g2 : V 47 a1.toNat = W 97 (3 * a1.toNat + 1) := g2; replace g3 : V 48 a1.toNat = W 97 (3 * a1.toNat + 2) := g3; rw [show (((3 * a1) + a2) : Int).toNat = 3 * a1.toNat by omega] at hu22; exact ⟨_, V, W, e, f.trans (congrArg (fun z => (z, W)) (show u21 = u13 by omega)), hq0⟩) | (obtain ⟨g1, g2, g3⟩ := sj a1.toNat (by omega); replace g1 : V 46 a1.toNat = W 97 (3 * a1.toNat) := g1; replace g2 : V 47 a1.toNat = W 97 (3 * a1.toNat + 1) := g2; replace g3 : V 48 a1.toNat = W 97 (3 * a1.toNat + 2) := g3; rw [show (((3 * a1) + a2) : Int).toNat = 3 * a1.toNat + 1 by omega] at hu22; exact ⟨_, V, W, e, f.trans (congrArg (fun z => (z, W)) (show u21 = u13 by omega)), hq0⟩) | (obtain ⟨g1, g2, g3⟩ := sj a1.toNat (by omega); replace g1 : V 46 a1.toNat = W 97 (3 * a1.toNat) := g1; replace g2 : V 47 a1.toNat = W 97 (3 * a1.toNat + 1) := g2; replace g3 : V 48 a1.toNat = W 97 (3 * a1.toNat + 2) := g3; rw [show (((3 * a1) + a2) : Int).toNat = 3 * a1.toNat + 2 by omega] at hu22; exact ⟨_, V, W, e, f.trans (congrArg (fun z => (z, W)) (show u21 = u13 by omega)), hq0⟩)
            · replace f := f.trans (pf_call_eq ((nf_in (V := W) a2 0 2).2 c19))
              replace f := f.trans (if_pos (by decide))
              first | (exfalso; omega) | exact ⟨_, V, W, e, f.trans (congrArg (fun z => (z, W)) (show (-1) = u13 by omega)), hq0⟩
          · replace f := f.trans (pf_call_eq ((nf_in (V := W) a1 0 (u15 - 1)).2 c17))
            replace f := f.trans (if_pos (by decide))
            first | (exfalso; omega) | exact ⟨_, V, W, e, f.trans (congrArg (fun z => (z, W)) (show (-1) = u13 by omega)), hq0⟩
        · replace e := e.trans (if_neg c12)
          by_cases c23 : a2 = 1
          · replace e := e.trans (if_pos c23)
            replace e := e.trans (if_pos (by omega))
            obtain ⟨u24, hu25⟩ : ∃ y, V 47 (a1 : Int).toNat = y := ⟨_, rfl⟩
            replace e := e.trans (pf_let_eq hu25)
            have f := F_X12_sound_eq a1 a2 W
            obtain ⟨u26, hu27⟩ : ∃ y, W 90 16 = y := ⟨_, rfl⟩
            replace f := f.trans (pf_let_eq hu27)
            by_cases c28 : 0 ≤ a1 ∧ a1 ≤ (u26 - 1)
            · replace f := f.trans (pf_call_eq ((nf_in (V := W) a1 0 (u26 - 1)).1 c28))
              replace f := f.trans (if_neg (by decide))
              by_cases c30 : 0 ≤ a2 ∧ a2 ≤ 2
              · replace f := f.trans (pf_call_eq ((nf_in (V := W) a2 0 2).1 c30))
                replace f := f.trans (if_neg (by decide))
                obtain ⟨u32, hu33⟩ : ∃ y, W 97 (((3 * a1) + a2) : Int).toNat = y := ⟨_, rfl⟩
                replace f := f.trans (pf_let_eq hu33)
                first | (exfalso; omega) | exact ⟨_, V, W, e, f.trans (congrArg (fun z => (z, W)) (show u32 = u24 by omega)), hq0⟩ | (obtain ⟨g1, g2, g3⟩ := sj a1.toNat (by omega); replace g1 : V 46 a1.toNat = W 97 (3 * a1.toNat) := g1; replace g2 : V 47 a1.toNat = W 97 (3 * a1.toNat + 1) := g2; replace g3 : V 48 a1.toNat = W 97 (3 * a1.toNat + 2) := g3; rw [show (((3 * a1) + a2) : Int).toNat = 3 * a1.toNat by omega] at hu33; exact ⟨_, V, W, e, f.trans (congrArg (fun z => (z, W)) (show u32 = u24 by omega)), hq0⟩) | (obtain ⟨g1, g2, g3⟩ := sj a1.toNat (by omega); replace g1 : V 46 a1.toNat = W 97 (3 * a1.toNat) := g1; replace g2 : V 47 a1.toNat = W 97 (3 * a1.toNat + 1) := g2; replace g3 : V 48 a1.toNat = W 97 (3 * a1.toNat + 2) := g3; rw [show (((3 * a1) + a2) : Int).toNat = 3 * a1.toNat + 1 by omega] at hu33; exact ⟨_, V, W, e, f.trans (congrArg (fun z => (z, W)) (show u32 = u24 by omega)), hq0⟩) | (obtain ⟨g1, g2, g3⟩ := sj a1.toNat (by omega); replace g1 : V 46 a1.toNat = W 97 (3 * a1.toNat) := g1; replace g2 : V 47 a1.toNat = W 97 (3 * a1.toNat + 1) := g2; replace g3 : V 48 a1.toNat = W 97 (3 * a1.toNat + 2) := g3; rw [show (((3 * a1) + a2) : Int).toNat = 3 * a1.toNat + 2 by omega] at hu33; exact ⟨_, V, W, e, f.trans (congrArg (fun z => (z, W)) (show u32 = u24 by omega)), hq0⟩)
              · replace f := f.trans (pf_call_eq ((nf_in (V := W) a2 0 2).2 c30))
                replace f := f.trans (if_pos (by decide))
                first | (exfalso; omega) | exact ⟨_, V, W, e, f.trans (congrArg (fun z => (z, W)) (show (-1) = u24 by omega)), hq0⟩
            · replace f := f.trans (pf_call_eq ((nf_in (V := W) a1 0 (u26 - 1)).2 c28))
              replace f := f.trans (if_pos (by decide))
              first | (exfalso; omega) | exact ⟨_, V, W, e, f.trans (congrArg (fun z => (z, W)) (show (-1) = u24 by omega)), hq0⟩
          · replace e := e.trans (if_neg c23)
            by_cases c34 : a2 = 2
            · replace e := e.trans (if_pos c34)
              replace e := e.trans (if_pos (by omega))
              obtain ⟨u35, hu36⟩ : ∃ y, V 48 (a1 : Int).toNat = y := ⟨_, rfl⟩
              replace e := e.trans (pf_let_eq hu36)
              have f := F_X12_sound_eq a1 a2 W
              obtain ⟨u37, hu38⟩ : ∃ y, W 90 16 = y := ⟨_, rfl⟩
              replace f := f.trans (pf_let_eq hu38)
              by_cases c39 : 0 ≤ a1 ∧ a1 ≤ (u37 - 1)
              · replace f := f.trans (pf_call_eq ((nf_in (V := W) a1 0 (u37 - 1)).1 c39))
                replace f := f.trans (if_neg (by decide))
                by_cases c41 : 0 ≤ a2 ∧ a2 ≤ 2
                · replace f := f.trans (pf_call_eq ((nf_in (V := W) a2 0 2).1 c41))
                  replace f := f.trans (if_neg (by decide))
                  obtain ⟨u43, hu44⟩ : ∃ y, W 97 (((3 * a1) + a2) : Int).toNat = y := ⟨_, rfl⟩
                  replace f := f.trans (pf_let_eq hu44)
                  first | (exfalso; omega) | exact ⟨_, V, W, e, f.trans (congrArg (fun z => (z, W)) (show u43 = u35 by omega)), hq0⟩ | (obtain ⟨g1, g2, g3⟩ := sj a1.toNat (by omega); replace g1 : V 46 a1.toNat = W 97 (3 * a1.toNat) := g1; replace g2 : V 47 a1.toNat = W 97 (3 * a1.toNat + 1) := g2; replace g3 : V 48 a1.toNat = W 97 (3 * a1.toNat + 2) := g3; rw [show (((3 * a1) + a2) : Int).toNat = 3 * a1.toNat by omega] at hu44; exact ⟨_, V, W, e, f.trans (congrArg (fun z => (z, W)) (show u43 = u35 by omega)), hq0⟩) | (obtain ⟨g1, g2, g3⟩ := sj a1.toNat (by omega); replace g1 : V 46 a1.toNat = W 97 (3 * a1.toNat) := g1; replace g2 : V 47 a1.toNat = W 97 (3 * a1.toNat + 1) := g2; replace g3 : V 48 a1.toNat = W 97 (3 * a1.toNat + 2) := g3; rw [show (((3 * a1) + a2) : Int).toNat = 3 * a1.toNat + 1 by omega] at hu44; exact ⟨_, V, W, e, f.trans (congrArg (fun z => (z, W)) (show u43 = u35 by omega)), hq0⟩) | (obtain ⟨g1, g2, g3⟩ := sj a1.toNat (by omega); replace g1 : V 46 a1.toNat = W 97 (3 * a1.toNat) := g1; replace g2 : V 47 a1.toNat = W 97 (3 * a1.toNat + 1) := g2; replace g3 : V 48 a1.toNat = W 97 (3 * a1.toNat + 2) := g3; rw [show (((3 * a1) + a2) : Int).toNat = 3 * a1.toNat + 2 by omega] at hu44; exact ⟨_, V, W, e, f.trans (congrArg (fun z => (z, W)) (show u43 = u35 by omega)), hq0⟩)
                · replace f := f.trans (pf_call_eq ((nf_in (V := W) a2 0 2).2 c41))
                  replace f := f.trans (if_pos (by decide))
                  first | (exfalso; omega) | exact ⟨_, V, W, e, f.trans (congrArg (fun z => (z, W)) (show (-1) = u35 by omega)), hq0⟩
              · replace f := f.trans (pf_call_eq ((nf_in (V := W) a1 0 (u37 - 1)).2 c39))
                replace f := f.trans (if_pos (by decide))
                first | (exfalso; omega) | exact ⟨_, V, W, e, f.trans (congrArg (fun z => (z, W)) (show (-1) = u35 by omega)), hq0⟩
            · replace e := e.trans (if_neg c34)
              have f := F_X12_sound_eq a1 a2 W
              obtain ⟨u45, hu46⟩ : ∃ y, W 90 16 = y := ⟨_, rfl⟩
              replace f := f.trans (pf_let_eq hu46)
              by_cases c47 : 0 ≤ a1 ∧ a1 ≤ (u45 - 1)
              · replace f := f.trans (pf_call_eq ((nf_in (V := W) a1 0 (u45 - 1)).1 c47))
                replace f := f.trans (if_neg (by decide))
                by_cases c49 : 0 ≤ a2 ∧ a2 ≤ 2
                · replace f := f.trans (pf_call_eq ((nf_in (V := W) a2 0 2).1 c49))
                  replace f := f.trans (if_neg (by decide))
                  obtain ⟨u51, hu52⟩ : ∃ y, W 97 (((3 * a1) + a2) : Int).toNat = y := ⟨_, rfl⟩
                  replace f := f.trans (pf_let_eq hu52)
                  first | (exfalso; omega) | exact ⟨_, V, W, e, f.trans (congrArg (fun z => (z, W)) (show u51 = (0 : Int) by omega)), hq0⟩ | (obtain ⟨g1, g2, g3⟩ := sj a1.toNat (by omega); replace g1 : V 46 a1.toNat = W 97 (3 * a1.toNat) := g1; replace g2 : V 47 a1.toNat = W 97 (3 * a1.toNat + 1) := g2; replace g3 : V 48 a1.toNat = W 97 (3 * a1.toNat + 2) := g3; rw [show (((3 * a1) + a2) : Int).toNat = 3 * a1.toNat by omega] at hu52; exact ⟨_, V, W, e, f.trans (congrArg (fun z => (z, W)) (show u51 = (0 : Int) by omega)), hq0⟩) | (obtain ⟨g1, g2, g3⟩ := sj a1.toNat (by omega); replace g1 : V 46 a1.toNat = W 97 (3 * a1.toNat) := g1; replace g2 : V 47 a1.toNat = W 97 (3 * a1.toNat + 1) := g2; replace g3 : V 48 a1.toNat = W 97 (3 * a1.toNat + 2) := g3; rw [show (((3 * a1) + a2) : Int).toNat = 3 * a1.toNat + 1 by omega] at hu52; exact ⟨_, V, W, e, f.trans (congrArg (fun z => (z, W)) (show u51 = (0 : Int) by omega)), hq0⟩) | (obtain ⟨g1, g2, g3⟩ := sj a1.toNat (by omega); replace g1 : V 46 a1.toNat = W 97 (3 * a1.toNat) := g1; replace g2 : V 47 a1.toNat = W 97 (3 * a1.toNat + 1) := g2; replace g3 : V 48 a1.toNat = W 97 (3 * a1.toNat + 2) := g3; rw [show (((3 * a1) + a2) : Int).toNat = 3 * a1.toNat + 2 by omega] at hu52; exact ⟨_, V, W, e, f.trans (congrArg (fun z => (z, W)) (show u51 = (0 : Int) by omega)), hq0⟩)
                · replace f := f.trans (pf_call_eq ((nf_in (V := W) a2 0 2).2 c49))
                  replace f := f.trans (if_pos (by decide))
                  first | (exfalso; omega) | exact ⟨_, V, W, e, f.trans (congrArg (fun z => (z, W)) (show (-1) = (0 : Int) by omega)), hq0⟩
              · replace f := f.trans (pf_call_eq ((nf_in (V := W) a1 0 (u45 - 1)).2 c47))
                replace f := f.trans (if_pos (by decide))
                first | (exfalso; omega) | exact ⟨_, V, W, e, f.trans (congrArg (fun z => (z, W)) (show (-1) = (0 : Int) by omega)), hq0⟩
    · replace e := e.trans (pf_call_eq ((nf_isSound (V := V) hs a1).2 c1))
      replace e := e.trans (if_neg (by decide))
      have f := F_X12_sound_eq a1 a2 W
      obtain ⟨u53, hu54⟩ : ∃ y, W 90 16 = y := ⟨_, rfl⟩
      replace f := f.trans (pf_let_eq hu54)
      by_cases c55 : 0 ≤ a1 ∧ a1 ≤ (u53 - 1)
      · replace f := f.trans (pf_call_eq ((nf_in (V := W) a1 0 (u53 - 1)).1 c55))
        replace f := f.trans (if_neg (by decide))
        by_cases c57 : 0 ≤ a2 ∧ a2 ≤ 2
        · replace f := f.trans (pf_call_eq ((nf_in (V := W) a2 0 2).1 c57))
          replace f := f.trans (if_neg (by decide))
          obtain ⟨u59, hu60⟩ : ∃ y, W 97 (((3 * a1) + a2) : Int).toNat = y := ⟨_, rfl⟩
          replace f := f.trans (pf_let_eq hu60)
          first | (exfalso; omega) | exact ⟨_, V, W, e, f.trans (congrArg (fun z => (z, W)) (show u59 = (-1) by omega)), hq0⟩ | (obtain ⟨g1, g2, g3⟩ := sj a1.toNat (by omega); replace g1 : V 46 a1.toNat = W 97 (3 * a1.toNat) := g1; replace g2 : V 47 a1.toNat = W 97 (3 * a1.toNat + 1) := g2; replace g3 : V 48 a1.toNat = W 97 (3 * a1.toNat + 2) := g3; rw [show (((3 * a1) + a2) : Int).toNat = 3 * a1.toNat by omega] at hu60; exact ⟨_, V, W, e, f.trans (congrArg (fun z => (z, W)) (show u59 = (-1) by omega)), hq0⟩) | (obtain ⟨g1, g2, g3⟩ := sj a1.toNat (by omega); replace g1 : V 46 a1.toNat = W 97 (3 * a1.toNat) := g1; replace g2 : V 47 a1.toNat = W 97 (3 * a1.toNat + 1) := g2; replace g3 : V 48 a1.toNat = W 97 (3 * a1.toNat + 2) := g3; rw [show (((3 * a1) + a2) : Int).toNat = 3 * a1.toNat + 1 by omega] at hu60; exact ⟨_, V, W, e, f.trans (congrArg (fun z => (z, W)) (show u59 = (-1) by omega)), hq0⟩) | (obtain ⟨g1, g2, g3⟩ := sj a1.toNat (by omega); replace g1 : V 46 a1.toNat = W 97 (3 * a1.toNat) := g1; replace g2 : V 47 a1.toNat = W 97 (3 * a1.toNat + 1) := g2; replace g3 : V 48 a1.toNat = W 97 (3 * a1.toNat + 2) := g3; rw [show (((3 * a1) + a2) : Int).toNat = 3 * a1.toNat + 2 by omega] at hu60; exact ⟨_, V, W, e, f.trans (congrArg (fun z => (z, W)) (show u59 = (-1) by omega)), hq0⟩)
        · replace f := f.trans (pf_call_eq ((nf_in (V := W) a2 0 2).2 c57))
          replace f := f.trans (if_pos (by decide))
          exact ⟨(-1), V, W, e, f, hq0⟩
      · replace f := f.trans (pf_call_eq ((nf_in (V := W) a1 0 (u53 - 1)).2 c55))
        replace f := f.trans (if_pos (by decide))
        exact ⟨(-1), V, W, e, f, hq0⟩
  · skip
    rw [show (V 0 8).toNat = 51 by omega] at h3
    obtain ⟨s0, s10, sj, s4, -⟩ := h3
    have e := F_X11_sound_eq a1 a2 V
    by_cases c1 : 0 ≤ a1 ∧ a1 < W 90 16
    · replace e := e.trans (pf_call_eq ((nf_isSound (V := V) hs a1).1 c1))
      replace e := e.trans (if_pos (by decide))
      by_cases c3 : a2 < 0 ∨ 2 < a2
      · replace e := e.trans (if_pos c3)
        have f := F_X12_sound_eq a1 a2 W
        obtain ⟨u4, hu5⟩ : ∃ y, W 90 16 = y := ⟨_, rfl⟩
        replace f := f.trans (pf_let_eq hu5)
        by_cases c6 : 0 ≤ a1 ∧ a1 ≤ (u4 - 1)
        · replace f := f.trans (pf_call_eq ((nf_in (V := W) a1 0 (u4 - 1)).1 c6))
          replace f := f.trans (if_neg (by decide))
          by_cases c8 : 0 ≤ a2 ∧ a2 ≤ 2
          · replace f := f.trans (pf_call_eq ((nf_in (V := W) a2 0 2).1 c8))
            replace f := f.trans (if_neg (by decide))
            obtain ⟨u10, hu11⟩ : ∃ y, W 97 (((3 * a1) + a2) : Int).toNat = y := ⟨_, rfl⟩
            replace f := f.trans (pf_let_eq hu11)
            first | (exfalso; omega) | exact ⟨_, V, W, e, f.trans (congrArg (fun z => (z, W)) (show u10 = (-1) by omega)), hq0⟩ | (obtain ⟨g1, g2, g3⟩ := sj a1.toNat (by omega); replace g1 : V 52 a1.toNat = W 97 (3 * a1.toNat) := g1; replace g2 : V 53 a1.toNat = W 97 (3 * a1.toNat + 1) := g2; replace g3 : V 54 a1.toNat = W 97 (3 * a1.toNat + 2) := g3; rw [show (((3 * a1) + a2) : Int).toNat = 3 * a1.toNat by omega] at hu11; exact ⟨_, V, W, e, f.trans (congrArg (fun z => (z, W)) (show u10 = (-1) by omega)), hq0⟩) | (obtain ⟨g1, g2, g3⟩ := sj a1.toNat (by omega); replace g1 : V 52 a1.toNat = W 97 (3 * a1.toNat) := g1; replace g2 : V 53 a1.toNat = W 97 (3 * a1.toNat + 1) := g2; replace g3 : V 54 a1.toNat = W 97 (3 * a1.toNat + 2) := g3; rw [show (((3 * a1) + a2) : Int).toNat = 3 * a1.toNat + 1 by omega] at hu11; exact ⟨_, V, W, e, f.trans (congrArg (fun z => (z, W)) (show u10 = (-1) by omega)), hq0⟩) | (obtain ⟨g1, g2, g3⟩ := sj a1.toNat (by omega); replace g1 : V 52 a1.toNat = W 97 (3 * a1.toNat) := g1; replace g2 : V 53 a1.toNat = W 97 (3 * a1.toNat + 1) := g2; replace g3 : V 54 a1.toNat = W 97 (3 * a1.toNat + 2) := g3; rw [show (((3 * a1) + a2) : Int).toNat = 3 * a1.toNat + 2 by omega] at hu11; exact ⟨_, V, W, e, f.trans (congrArg (fun z => (z, W)) (show u10 = (-1) by omega)), hq0⟩)
          · replace f := f.trans (pf_call_eq ((nf_in (V := W) a2 0 2).2 c8))
            replace f := f.trans (if_pos (by decide))
            exact ⟨(-1), V, W, e, f, hq0⟩
        · replace f := f.trans (pf_call_eq ((nf_in (V := W) a1 0 (u4 - 1)).2 c6))
          replace f := f.trans (if_pos (by decide))
          exact ⟨(-1), V, W, e, f, hq0⟩
      · replace e := e.trans (if_neg c3)
        by_cases c12 : a2 = 0
        · replace e := e.trans (if_pos c12)
          replace e := e.trans (if_neg (by omega))
          obtain ⟨u13, hu14⟩ : ∃ y, V 52 (a1 : Int).toNat = y := ⟨_, rfl⟩
          replace e := e.trans (pf_let_eq hu14)
          have f := F_X12_sound_eq a1 a2 W
          obtain ⟨u15, hu16⟩ : ∃ y, W 90 16 = y := ⟨_, rfl⟩
          replace f := f.trans (pf_let_eq hu16)
          by_cases c17 : 0 ≤ a1 ∧ a1 ≤ (u15 - 1)
          · replace f := f.trans (pf_call_eq ((nf_in (V := W) a1 0 (u15 - 1)).1 c17))
            replace f := f.trans (if_neg (by decide))
            by_cases c19 : 0 ≤ a2 ∧ a2 ≤ 2
            · replace f := f.trans (pf_call_eq ((nf_in (V := W) a2 0 2).1 c19))
              replace f := f.trans (if_neg (by decide))
              obtain ⟨u21, hu22⟩ : ∃ y, W 97 (((3 * a1) + a2) : Int).toNat = y := ⟨_, rfl⟩
              replace f := f.trans (pf_let_eq hu22)
              first | (exfalso; omega) | exact ⟨_, V, W, e, f.trans (congrArg (fun z => (z, W)) (show u21 = u13 by omega)), hq0⟩ | (obtain ⟨g1, g2, g3⟩ := sj a1.toNat (by omega); replace g1 : V 52 a1.toNat = W 97 (3 * a1.toNat) := g1; replace g2 : V 53 a1.toNat = W 97 (3 * a1.toNat + 1) := g2; replace g3 : V 54 a1.toNat = W 97 (3 * a1.toNat + 2) := g3; rw [show (((3 * a1) + a2) : Int).toNat = 3 * a1.toNat by omega] at hu22; exact ⟨_, V, W, e, f.trans (congrArg (fun z => (z, W)) (show u21 = u13 by omega)), hq0⟩) | (obtain ⟨g1, g2, g3⟩ := sj a1.toNat (by omega); replace g1 : V 52 a1.toNat = W 97 (3 * a1.toNat) := g1; replace g2 : V 53 a1.toNat = W 97 (3 * a1.toNat + 1) := g2; replace g3 : V 54 a1.toNat = W 97 (3 * a1.toNat + 2) := g3; rw [show (((3 * a1) + a2) : Int).toNat = 3 * a1.toNat + 1 by omega] at hu22; exact ⟨_, V, W, e, f.trans (congrArg (fun z => (z, W)) (show u21 = u13 by omega)), hq0⟩) | (obtain ⟨g1, g2, g3⟩ := sj a1.toNat (by omega); replace g1 : V 52 a1.toNat = W 97 (3 * a1.toNat) := g1; replace g2 : V 53 a1.toNat = W 97 (3 * a1.toNat + 1) := g2; replace g3 : V 54 a1.toNat = W 97 (3 * a1.toNat + 2) := g3; rw [show (((3 * a1) + a2) : Int).toNat = 3 * a1.toNat + 2 by omega] at hu22; exact ⟨_, V, W, e, f.trans (congrArg (fun z => (z, W)) (show u21 = u13 by omega)), hq0⟩)
            · replace f := f.trans (pf_call_eq ((nf_in (V := W) a2 0 2).2 c19))
              replace f := f.trans (if_pos (by decide))
              first | (exfalso; omega) | exact ⟨_, V, W, e, f.trans (congrArg (fun z => (z, W)) (show (-1) = u13 by omega)), hq0⟩
          · replace f := f.trans (pf_call_eq ((nf_in (V := W) a1 0 (u15 - 1)).2 c17))
            replace f := f.trans (if_pos (by decide))
            first | (exfalso; omega) | exact ⟨_, V, W, e, f.trans (congrArg (fun z => (z, W)) (show (-1) = u13 by omega)), hq0⟩
        · replace e := e.trans (if_neg c12)
          by_cases c23 : a2 = 1
          · replace e := e.trans (if_pos c23)
            replace e := e.trans (if_neg (by omega))
            obtain ⟨u24, hu25⟩ : ∃ y, V 53 (a1 : Int).toNat = y := ⟨_, rfl⟩
            replace e := e.trans (pf_let_eq hu25)
            have f := F_X12_sound_eq a1 a2 W
            obtain ⟨u26, hu27⟩ : ∃ y, W 90 16 = y := ⟨_, rfl⟩
            replace f := f.trans (pf_let_eq hu27)
            by_cases c28 : 0 ≤ a1 ∧ a1 ≤ (u26 - 1)
            · replace f := f.trans (pf_call_eq ((nf_in (V := W) a1 0 (u26 - 1)).1 c28))
              replace f := f.trans (if_neg (by decide))
              by_cases c30 : 0 ≤ a2 ∧ a2 ≤ 2
              · replace f := f.trans (pf_call_eq ((nf_in (V := W) a2 0 2).1 c30))
                replace f := f.trans (if_neg (by decide))
                obtain ⟨u32, hu33⟩ : ∃ y, W 97 (((3 * a1) + a2) : Int).toNat = y := ⟨_, rfl⟩
                replace f := f.trans (pf_let_eq hu33)
                first | (exfalso; omega) | exact ⟨_, V, W, e, f.trans (congrArg (fun z => (z, W)) (show u32 = u24 by omega)), hq0⟩ | (obtain ⟨g1, g2, g3⟩ := sj a1.toNat (by omega); replace g1 : V 52 a1.toNat = W 97 (3 * a1.toNat) := g1; replace g2 : V 53 a1.toNat = W 97 (3 * a1.toNat + 1) := g2; replace g3 : V 54 a1.toNat = W 97 (3 * a1.toNat + 2) := g3; rw [show (((3 * a1) + a2) : Int).toNat = 3 * a1.toNat by omega] at hu33; exact ⟨_, V, W, e, f.trans (congrArg (fun z => (z, W)) (show u32 = u24 by omega)), hq0⟩) | (obtain ⟨g1, g2, g3⟩ := sj a1.toNat (by omega); replace g1 : V 52 a1.toNat = W 97 (3 * a1.toNat) := g1; replace g2 : V 53 a1.toNat = W 97 (3 * a1.toNat + 1) := g2; replace g3 : V 54 a1.toNat = W 97 (3 * a1.toNat + 2) := g3; rw [show (((3 * a1) + a2) : Int).toNat = 3 * a1.toNat + 1 by omega] at hu33; exact ⟨_, V, W, e, f.trans (congrArg (fun z => (z, W)) (show u32 = u24 by omega)), hq0⟩) | (obtain ⟨g1, g2, g3⟩ := sj a1.toNat (by omega); replace g1 : V 52 a1.toNat = W 97 (3 * a1.toNat) := g1; replace g2 : V 53 a1.toNat = W 97 (3 * a1.toNat + 1) := g2; replace g3 : V 54 a1.toNat = W 97 (3 * a1.toNat + 2) := g3; rw [show (((3 * a1) + a2) : Int).toNat = 3 * a1.toNat + 2 by omega] at hu33; exact ⟨_, V, W, e, f.trans (congrArg (fun z => (z, W)) (show u32 = u24 by omega)), hq0⟩)
              · replace f := f.trans (pf_call_eq ((nf_in (V := W) a2 0 2).2 c30))
                replace f := f.trans (if_pos (by decide))
                first | (exfalso; omega) | exact ⟨_, V, W, e, f.trans (congrArg (fun z => (z, W)) (show (-1) = u24 by omega)), hq0⟩
            · replace f := f.trans (pf_call_eq ((nf_in (V := W) a1 0 (u26 - 1)).2 c28))
              replace f := f.trans (if_pos (by decide))
              first | (exfalso; omega) | exact ⟨_, V, W, e, f.trans (congrArg (fun z => (z, W)) (show (-1) = u24 by omega)), hq0⟩
          · replace e := e.trans (if_neg c23)
            by_cases c34 : a2 = 2
            · replace e := e.trans (if_pos c34)
              replace e := e.trans (if_neg (by omega))
              obtain ⟨u35, hu36⟩ : ∃ y, V 54 (a1 : Int).toNat = y := ⟨_, rfl⟩
              replace e := e.trans (pf_let_eq hu36)
              have f := F_X12_sound_eq a1 a2 W
              obtain ⟨u37, hu38⟩ : ∃ y, W 90 16 = y := ⟨_, rfl⟩
              replace f := f.trans (pf_let_eq hu38)
              by_cases c39 : 0 ≤ a1 ∧ a1 ≤ (u37 - 1)
              · replace f := f.trans (pf_call_eq ((nf_in (V := W) a1 0 (u37 - 1)).1 c39))
                replace f := f.trans (if_neg (by decide))
                by_cases c41 : 0 ≤ a2 ∧ a2 ≤ 2
                · replace f := f.trans (pf_call_eq ((nf_in (V := W) a2 0 2).1 c41))
                  replace f := f.trans (if_neg (by decide))
                  obtain ⟨u43, hu44⟩ : ∃ y, W 97 (((3 * a1) + a2) : Int).toNat = y := ⟨_, rfl⟩
                  replace f := f.trans (pf_let_eq hu44)
                  first | (exfalso; omega) | exact ⟨_, V, W, e, f.trans (congrArg (fun z => (z, W)) (show u43 = u35 by omega)), hq0⟩ | (obtain ⟨g1, g2, g3⟩ := sj a1.toNat (by omega); replace g1 : V 52 a1.toNat = W 97 (3 * a1.toNat) := g1; replace g2 : V 53 a1.toNat = W 97 (3 * a1.toNat + 1) := g2; replace g3 : V 54 a1.toNat = W 97 (3 * a1.toNat + 2) := g3; rw [show (((3 * a1) + a2) : Int).toNat = 3 * a1.toNat by omega] at hu44; exact ⟨_, V, W, e, f.trans (congrArg (fun z => (z, W)) (show u43 = u35 by omega)), hq0⟩) | (obtain ⟨g1, g2, g3⟩ := sj a1.toNat (by omega); replace g1 : V 52 a1.toNat = W 97 (3 * a1.toNat) := g1; replace g2 : V 53 a1.toNat = W 97 (3 * a1.toNat + 1) := g2; replace g3 : V 54 a1.toNat = W 97 (3 * a1.toNat + 2) := g3; rw [show (((3 * a1) + a2) : Int).toNat = 3 * a1.toNat + 1 by omega] at hu44; exact ⟨_, V, W, e, f.trans (congrArg (fun z => (z, W)) (show u43 = u35 by omega)), hq0⟩) | (obtain ⟨g1, g2, g3⟩ := sj a1.toNat (by omega); replace g1 : V 52 a1.toNat = W 97 (3 * a1.toNat) := g1; replace g2 : V 53 a1.toNat = W 97 (3 * a1.toNat + 1) := g2; replace g3 : V 54 a1.toNat = W 97 (3 * a1.toNat + 2) := g3; rw [show (((3 * a1) + a2) : Int).toNat = 3 * a1.toNat + 2 by omega] at hu44; exact ⟨_, V, W, e, f.trans (congrArg (fun z => (z, W)) (show u43 = u35 by omega)), hq0⟩)
                · replace f := f.trans (pf_call_eq ((nf_in (V := W) a2 0 2).2 c41))
                  replace f := f.trans (if_pos (by decide))
                  first | (exfalso; omega) | exact ⟨_, V, W, e, f.trans (congrArg (fun z => (z, W)) (show (-1) = u35 by omega)), hq0⟩
              · replace f := f.trans (pf_call_eq ((nf_in (V := W) a1 0 (u37 - 1)).2 c39))
                replace f := f.trans (if_pos (by decide))
                first | (exfalso; omega) | exact ⟨_, V, W, e, f.trans (congrArg (fun z => (z, W)) (show (-1) = u35 by omega)), hq0⟩
            · replace e := e.trans (if_neg c34)
              have f := F_X12_sound_eq a1 a2 W
              obtain ⟨u45, hu46⟩ : ∃ y, W 90 16 = y := ⟨_, rfl⟩
              replace f := f.trans (pf_let_eq hu46)
              by_cases c47 : 0 ≤ a1 ∧ a1 ≤ (u45 - 1)
              · replace f := f.trans (pf_call_eq ((nf_in (V := W) a1 0 (u45 - 1)).1 c47))
                replace f := f.trans (if_neg (by decide))
                by_cases c49 : 0 ≤ a2 ∧ a2 ≤ 2
                · replace f := f.trans (pf_call_eq ((nf_in (V := W) a2 0 2).1 c49))
                  replace f := f.trans (if_neg (by decide))
                  obtain ⟨u51, hu52⟩ : ∃ y, W 97 (((3 * a1) + a2) : Int).toNat = y := ⟨_, rfl⟩
                  replace f := f.trans (pf_let_eq hu52)
                  first | (exfalso; omega) | exact ⟨_, V, W, e, f.trans (congrArg (fun z => (z, W)) (show u51 = (0 : Int) by omega)), hq0⟩ | (obtain ⟨g1, g2, g3⟩ := sj a1.toNat (by omega); replace g1 : V 52 a1.toNat = W 97 (3 * a1.toNat) := g1; replace g2 : V 53 a1.toNat = W 97 (3 * a1.toNat + 1) := g2; replace g3 : V 54 a1.toNat = W 97 (3 * a1.toNat + 2) := g3; rw [show (((3 * a1) + a2) : Int).toNat = 3 * a1.toNat by omega] at hu52; exact ⟨_, V, W, e, f.trans (congrArg (fun z => (z, W)) (show u51 = (0 : Int) by omega)), hq0⟩) | (obtain ⟨g1, g2, g3⟩ := sj a1.toNat (by omega); replace g1 : V 52 a1.toNat = W 97 (3 * a1.toNat) := g1; replace g2 : V 53 a1.toNat = W 97 (3 * a1.toNat + 1) := g2; replace g3 : V 54 a1.toNat = W 97 (3 * a1.toNat + 2) := g3; rw [show (((3 * a1) + a2) : Int).toNat = 3 * a1.toNat + 1 by omega] at hu52; exact ⟨_, V, W, e, f.trans (congrArg (fun z => (z, W)) (show u51 = (0 : Int) by omega)), hq0⟩) | (obtain ⟨g1, g2, g3⟩ := sj a1.toNat (by omega); replace g1 : V 52 a1.toNat = W 97 (3 * a1.toNat) := g1; replace g2 : V 53 a1.toNat = W 97 (3 * a1.toNat + 1) := g2; replace g3 : V 54 a1.toNat = W 97 (3 * a1.toNat + 2) := g3; rw [show (((3 * a1) + a2) : Int).toNat = 3 * a1.toNat + 2 by omega] at hu52; exact ⟨_, V, W, e, f.trans (congrArg (fun z => (z, W)) (show u51 = (0 : Int) by omega)), hq0⟩)
                · replace f := f.trans (pf_call_eq ((nf_in (V := W) a2 0 2).2 c49))
                  replace f := f.trans (if_pos (by decide))
                  first | (exfalso; omega) | exact ⟨_, V, W, e, f.trans (congrArg (fun z => (z, W)) (show (-1) = (0 : Int) by omega)), hq0⟩
              · replace f := f.trans (pf_call_eq ((nf_in (V := W) a1 0 (u45 - 1)).2 c47))
                replace f := f.trans (if_pos (by decide))
                first | (exfalso; omega) | exact ⟨_, V, W, e, f.trans (congrArg (fun z => (z, W)) (show (-1) = (0 : Int) by omega)), hq0⟩
    · replace e := e.trans (pf_call_eq ((nf_isSound (V := V) hs a1).2 c1))
      replace e := e.trans (if_neg (by decide))
      have f := F_X12_sound_eq a1 a2 W
      obtain ⟨u53, hu54⟩ : ∃ y, W 90 16 = y := ⟨_, rfl⟩
      replace f := f.trans (pf_let_eq hu54)
      by_cases c55 : 0 ≤ a1 ∧ a1 ≤ (u53 - 1)
      · replace f := f.trans (pf_call_eq ((nf_in (V := W) a1 0 (u53 - 1)).1 c55))
        replace f := f.trans (if_neg (by decide))
        by_cases c57 : 0 ≤ a2 ∧ a2 ≤ 2
        · replace f := f.trans (pf_call_eq ((nf_in (V := W) a2 0 2).1 c57))
          replace f := f.trans (if_neg (by decide))
          obtain ⟨u59, hu60⟩ : ∃ y, W 97 (((3 * a1) + a2) : Int).toNat = y := ⟨_, rfl⟩
          replace f := f.trans (pf_let_eq hu60)
          first | (exfalso; omega) | exact ⟨_, V, W, e, f.trans (congrArg (fun z => (z, W)) (show u59 = (-1) by omega)), hq0⟩ | (obtain ⟨g1, g2, g3⟩ := sj a1.toNat (by omega); replace g1 : V 52 a1.toNat = W 97 (3 * a1.toNat) := g1; replace g2 : V 53 a1.toNat = W 97 (3 * a1.toNat + 1) := g2; replace g3 : V 54 a1.toNat = W 97 (3 * a1.toNat + 2) := g3; rw [show (((3 * a1) + a2) : Int).toNat = 3 * a1.toNat by omega] at hu60; exact ⟨_, V, W, e, f.trans (congrArg (fun z => (z, W)) (show u59 = (-1) by omega)), hq0⟩) | (obtain ⟨g1, g2, g3⟩ := sj a1.toNat (by omega); replace g1 : V 52 a1.toNat = W 97 (3 * a1.toNat) := g1; replace g2 : V 53 a1.toNat = W 97 (3 * a1.toNat + 1) := g2; replace g3 : V 54 a1.toNat = W 97 (3 * a1.toNat + 2) := g3; rw [show (((3 * a1) + a2) : Int).toNat = 3 * a1.toNat + 1 by omega] at hu60; exact ⟨_, V, W, e, f.trans (congrArg (fun z => (z, W)) (show u59 = (-1) by omega)), hq0⟩) | (obtain ⟨g1, g2, g3⟩ := sj a1.toNat (by omega); replace g1 : V 52 a1.toNat = W 97 (3 * a1.toNat) := g1; replace g2 : V 53 a1.toNat = W 97 (3 * a1.toNat + 1) := g2; replace g3 : V 54 a1.toNat = W 97 (3 * a1.toNat + 2) := g3; rw [show (((3 * a1) + a2) : Int).toNat = 3 * a1.toNat + 2 by omega] at hu60; exact ⟨_, V, W, e, f.trans (congrArg (fun z => (z, W)) (show u59 = (-1) by omega)), hq0⟩)
        · replace f := f.trans (pf_call_eq ((nf_in (V := W) a2 0 2).2 c57))
          replace f := f.trans (if_pos (by decide))
          exact ⟨(-1), V, W, e, f, hq0⟩
      · replace f := f.trans (pf_call_eq ((nf_in (V := W) a1 0 (u53 - 1)).2 c55))
        replace f := f.trans (if_pos (by decide))
        exact ⟨(-1), V, W, e, f, hq0⟩
set_option maxHeartbeats 40000000 in
theorem mB_person {V W : pm_M} (hq : rq V W) (hb : 2 ≤ W 90 16 ∧ 0 ≤ W 90 23 ∧ W 90 23 ≤ 10 ∧ 0 ≤ W 90 25 ∧ W 90 25 ≤ 60) (a1 a2 a3 : Int) : ∃ y V1 W1, F_X11_person a1 a2 a3 V = (y, V1) ∧ F_X12_person a1 a2 a3 W = (y, W1) ∧ rq V1 W1 := by
  have hq0 := hq
  have hs := hq.hs
  obtain ⟨h1, h2, h3, h4, h5, h6, h7⟩ := hq
  rcases h1 with ⟨h8, -⟩ | ⟨h8, -⟩
  · skip
    rw [show (V 0 8).toNat = 45 by omega] at h3
    obtain ⟨s0, s10, sj, s4, -⟩ := h3
    have e := F_X11_person_eq a1 a2 a3 V
    by_cases c1 : -30 ≤ a1 ∧ a1 ≤ 30 ∧ -30 ≤ a2 ∧ a2 ≤ 30
    · replace e := e.trans (pf_call_eq ((nf_areChanges (V := V) a1 a2).1 c1))
      replace e := e.trans (if_neg (by decide))
      by_cases c3 : a3 < 0
      · replace e := e.trans (if_pos c3)
        by_cases c4 : (0 : Int) < W 90 16
        · replace e := e.trans (pf_call_eq ((nf_hasScene (V := V) hs).1 c4))
          replace e := e.trans (if_neg (by decide))
          have f := F_X12_person_eq a1 a2 a3 W
          by_cases c6 : a3 < 0
          · replace f := f.trans (if_pos c6)
            exact ⟨(-1), V, W, e, f, hq0⟩
          · replace f := f.trans (if_neg c6)
            by_cases c7 : 3 < (a3 / 100)
            · replace f := f.trans (if_pos c7)
              exact ⟨(-1), V, W, e, f, hq0⟩
            · replace f := f.trans (if_neg c7)
              by_cases c8 : -30 ≤ a1 ∧ a1 ≤ 30 ∧ -30 ≤ a2 ∧ a2 ≤ 30 ∧ 0 ≤ (a3 % 100) ∧ (a3 % 100) ≤ 16
              · replace f := f.trans (pf_call_eq ((nf_areChangesR (V := W) a1 a2 (a3 % 100)).1 c8))
                replace f := f.trans (if_neg (by decide))
                obtain ⟨u10, hu11⟩ : ∃ y, W 90 23 = y := ⟨_, rfl⟩
                replace f := f.trans (pf_let_eq hu11)
                by_cases c12 : ¬ (u10 = 10)
                · replace f := f.trans (if_pos c12)
                  exfalso; omega
                · replace f := f.trans (if_neg c12)
                  exact ⟨(-1), V, W, e, f, hq0⟩
              · replace f := f.trans (pf_call_eq ((nf_areChangesR (V := W) a1 a2 (a3 % 100)).2 c8))
                replace f := f.trans (if_pos (by decide))
                exact ⟨(-1), V, W, e, f, hq0⟩
        · replace e := e.trans (pf_call_eq ((nf_hasScene (V := V) hs).2 c4))
          replace e := e.trans (if_pos (by decide))
          have f := F_X12_person_eq a1 a2 a3 W
          by_cases c13 : a3 < 0
          · replace f := f.trans (if_pos c13)
            exact ⟨(-1), V, W, e, f, hq0⟩
          · replace f := f.trans (if_neg c13)
            by_cases c14 : 3 < (a3 / 100)
            · replace f := f.trans (if_pos c14)
              exact ⟨(-1), V, W, e, f, hq0⟩
            · replace f := f.trans (if_neg c14)
              by_cases c15 : -30 ≤ a1 ∧ a1 ≤ 30 ∧ -30 ≤ a2 ∧ a2 ≤ 30 ∧ 0 ≤ (a3 % 100) ∧ (a3 % 100) ≤ 16
              · replace f := f.trans (pf_call_eq ((nf_areChangesR (V := W) a1 a2 (a3 % 100)).1 c15))
                replace f := f.trans (if_neg (by decide))
                obtain ⟨u17, hu18⟩ : ∃ y, W 90 23 = y := ⟨_, rfl⟩
                replace f := f.trans (pf_let_eq hu18)
                by_cases c19 : ¬ (u17 = 10)
                · replace f := f.trans (if_pos c19)
                  exfalso; omega
                · replace f := f.trans (if_neg c19)
                  exact ⟨(-1), V, W, e, f, hq0⟩
              · replace f := f.trans (pf_call_eq ((nf_areChangesR (V := W) a1 a2 (a3 % 100)).2 c15))
                replace f := f.trans (if_pos (by decide))
                exact ⟨(-1), V, W, e, f, hq0⟩
      · replace e := e.trans (if_neg c3)
        by_cases c20 : 3 < (a3 / 100)
        · replace e := e.trans (if_pos c20)
          by_cases c21 : (0 : Int) < W 90 16
          · replace e := e.trans (pf_call_eq ((nf_hasScene (V := V) hs).1 c21))
            replace e := e.trans (if_neg (by decide))
            have f := F_X12_person_eq a1 a2 a3 W
            by_cases c23 : a3 < 0
            · replace f := f.trans (if_pos c23)
              exact ⟨(-1), V, W, e, f, hq0⟩
            · replace f := f.trans (if_neg c23)
              by_cases c24 : 3 < (a3 / 100)
              · replace f := f.trans (if_pos c24)
                exact ⟨(-1), V, W, e, f, hq0⟩
              · replace f := f.trans (if_neg c24)
                by_cases c25 : -30 ≤ a1 ∧ a1 ≤ 30 ∧ -30 ≤ a2 ∧ a2 ≤ 30 ∧ 0 ≤ (a3 % 100) ∧ (a3 % 100) ≤ 16
                · replace f := f.trans (pf_call_eq ((nf_areChangesR (V := W) a1 a2 (a3 % 100)).1 c25))
                  replace f := f.trans (if_neg (by decide))
                  obtain ⟨u27, hu28⟩ : ∃ y, W 90 23 = y := ⟨_, rfl⟩
                  replace f := f.trans (pf_let_eq hu28)
                  by_cases c29 : ¬ (u27 = 10)
                  · replace f := f.trans (if_pos c29)
                    exfalso; omega
                  · replace f := f.trans (if_neg c29)
                    exact ⟨(-1), V, W, e, f, hq0⟩
                · replace f := f.trans (pf_call_eq ((nf_areChangesR (V := W) a1 a2 (a3 % 100)).2 c25))
                  replace f := f.trans (if_pos (by decide))
                  exact ⟨(-1), V, W, e, f, hq0⟩
          · replace e := e.trans (pf_call_eq ((nf_hasScene (V := V) hs).2 c21))
            replace e := e.trans (if_pos (by decide))
            have f := F_X12_person_eq a1 a2 a3 W
            by_cases c30 : a3 < 0
            · replace f := f.trans (if_pos c30)
              exact ⟨(-1), V, W, e, f, hq0⟩
            · replace f := f.trans (if_neg c30)
              by_cases c31 : 3 < (a3 / 100)
              · replace f := f.trans (if_pos c31)
                exact ⟨(-1), V, W, e, f, hq0⟩
              · replace f := f.trans (if_neg c31)
                by_cases c32 : -30 ≤ a1 ∧ a1 ≤ 30 ∧ -30 ≤ a2 ∧ a2 ≤ 30 ∧ 0 ≤ (a3 % 100) ∧ (a3 % 100) ≤ 16
                · replace f := f.trans (pf_call_eq ((nf_areChangesR (V := W) a1 a2 (a3 % 100)).1 c32))
                  replace f := f.trans (if_neg (by decide))
                  obtain ⟨u34, hu35⟩ : ∃ y, W 90 23 = y := ⟨_, rfl⟩
                  replace f := f.trans (pf_let_eq hu35)
                  by_cases c36 : ¬ (u34 = 10)
                  · replace f := f.trans (if_pos c36)
                    exfalso; omega
                  · replace f := f.trans (if_neg c36)
                    exact ⟨(-1), V, W, e, f, hq0⟩
                · replace f := f.trans (pf_call_eq ((nf_areChangesR (V := W) a1 a2 (a3 % 100)).2 c32))
                  replace f := f.trans (if_pos (by decide))
                  exact ⟨(-1), V, W, e, f, hq0⟩
        · replace e := e.trans (if_neg c20)
          by_cases c37 : 0 ≤ (a3 % 100) ∧ (a3 % 100) ≤ 16
          · replace e := e.trans (pf_call_eq ((nf_isBelief (V := V) (a3 % 100)).1 c37))
            replace e := e.trans (if_neg (by decide))
            by_cases c39 : (0 : Int) < W 90 16
            · replace e := e.trans (pf_call_eq ((nf_hasScene (V := V) hs).1 c39))
              replace e := e.trans (if_neg (by decide))
              obtain ⟨u41, hu42⟩ : ∃ y, V 4 1 = y := ⟨_, rfl⟩
              replace e := e.trans (pf_let_eq hu42)
              by_cases c43 : u41 < 10
              · replace e := e.trans (if_pos c43)
                have q44 := F_X7_addPerson_eq a1 a2 (a3 % 100) (a3 / 100) V
                obtain ⟨u45, hu46⟩ : ∃ y, V 4 1 = y := ⟨_, rfl⟩
                replace q44 := q44.trans (pf_let_eq hu46)
                by_cases c47 : u45 < 10
                · replace q44 := q44.trans (if_pos c47)
                  have q48 := F_X7_changePerson_eq u45 a1 a2 (a3 % 100) (pm_up V 8 (u45 : Int).toNat (a3 / 100))
                  replace q44 := q44.trans (pf_call_eq q48)
                  replace e := e.trans (pf_call_eq q44)
                  have f := F_X12_person_eq a1 a2 a3 W
                  by_cases c49 : a3 < 0
                  · replace f := f.trans (if_pos c49)
                    exfalso; omega
                  · replace f := f.trans (if_neg c49)
                    by_cases c50 : 3 < (a3 / 100)
                    · replace f := f.trans (if_pos c50)
                      exfalso; omega
                    · replace f := f.trans (if_neg c50)
                      by_cases c51 : -30 ≤ a1 ∧ a1 ≤ 30 ∧ -30 ≤ a2 ∧ a2 ≤ 30 ∧ 0 ≤ (a3 % 100) ∧ (a3 % 100) ≤ 16
                      · replace f := f.trans (pf_call_eq ((nf_areChangesR (V := W) a1 a2 (a3 % 100)).1 c51))
                        replace f := f.trans (if_neg (by decide))
                        obtain ⟨u53, hu54⟩ : ∃ y, W 90 23 = y := ⟨_, rfl⟩
                        replace f := f.trans (pf_let_eq hu54)
                        by_cases c55 : ¬ (u53 = 10)
                        · replace f := f.trans (if_pos c55)
                          first | (exfalso; omega) | exact ⟨_, _, _, e, f.trans (congrArg (fun z => (z, (pm_up (pm_up (pm_up (pm_up (pm_up W 100 ((4 * u53) : Int).toNat a1) 100 (((4 * u53) + 1) : Int).toNat a2) 100 (((4 * u53) + 2) : Int).toNat (a3 % 100)) 100 (((4 * u53) + 3) : Int).toNat (a3 / 100)) 90 23 (u53 + 1)))) (show ((u53 + 1) - 1) = ((u45 + 1) - 1) by omega)), (hq0.cnt (fun k i q q4 => by unfold sq_nd at q; rw [pm_up_c (by omega), pm_up_c (by omega), pm_up_c (by omega), pm_up_c (by omega), pm_up_c (by omega)]) (show (u45 + 1) = (u53 + 1) by omega) (show V 4 6 = W 90 25 by omega) (fun i q => by rcases (show i = 16 ∨ i = 19 ∨ i = 20 ∨ i = 21 ∨ i = 35 by (simp only [List.contains_eq_mem, List.mem_cons, List.not_mem_nil, or_false, decide_eq_true_eq] at q; exact q)) with rfl | rfl | rfl | rfl | rfl <;> rfl) (fun k q => by rcases (show k = 97 ∨ k = 98 ∨ k = 99 ∨ k = 102 ∨ k = 103 ∨ k = 105 by (simp only [List.contains_eq_mem, List.mem_cons, List.not_mem_nil, or_false, decide_eq_true_eq] at q; exact q)) with rfl | rfl | rfl | rfl | rfl | rfl <;> rfl))⟩
                        · replace f := f.trans (if_neg c55)
                          exfalso; omega
                      · replace f := f.trans (pf_call_eq ((nf_areChangesR (V := W) a1 a2 (a3 % 100)).2 c51))
                        replace f := f.trans (if_pos (by decide))
                        exfalso; omega
                · replace q44 := q44.trans (if_neg c47)
                  replace e := e.trans (pf_call_eq q44)
                  have f := F_X12_person_eq a1 a2 a3 W
                  by_cases c56 : a3 < 0
                  · replace f := f.trans (if_pos c56)
                    exact ⟨(-1), V, W, e, f, hq0⟩
                  · replace f := f.trans (if_neg c56)
                    by_cases c57 : 3 < (a3 / 100)
                    · replace f := f.trans (if_pos c57)
                      exact ⟨(-1), V, W, e, f, hq0⟩
                    · replace f := f.trans (if_neg c57)
                      by_cases c58 : -30 ≤ a1 ∧ a1 ≤ 30 ∧ -30 ≤ a2 ∧ a2 ≤ 30 ∧ 0 ≤ (a3 % 100) ∧ (a3 % 100) ≤ 16
                      · replace f := f.trans (pf_call_eq ((nf_areChangesR (V := W) a1 a2 (a3 % 100)).1 c58))
                        replace f := f.trans (if_neg (by decide))
                        obtain ⟨u60, hu61⟩ : ∃ y, W 90 23 = y := ⟨_, rfl⟩
                        replace f := f.trans (pf_let_eq hu61)
                        by_cases c62 : ¬ (u60 = 10)
                        · replace f := f.trans (if_pos c62)
                          exfalso; omega
                        · replace f := f.trans (if_neg c62)
                          exact ⟨(-1), V, W, e, f, hq0⟩
                      · replace f := f.trans (pf_call_eq ((nf_areChangesR (V := W) a1 a2 (a3 % 100)).2 c58))
                        replace f := f.trans (if_pos (by decide))
                        exact ⟨(-1), V, W, e, f, hq0⟩
              · replace e := e.trans (if_neg c43)
                have f := F_X12_person_eq a1 a2 a3 W
                by_cases c63 : a3 < 0
                · replace f := f.trans (if_pos c63)
                  exact ⟨(-1), V, W, e, f, hq0⟩
                · replace f := f.trans (if_neg c63)
                  by_cases c64 : 3 < (a3 / 100)
                  · replace f := f.trans (if_pos c64)
                    exact ⟨(-1), V, W, e, f, hq0⟩
                  · replace f := f.trans (if_neg c64)
                    by_cases c65 : -30 ≤ a1 ∧ a1 ≤ 30 ∧ -30 ≤ a2 ∧ a2 ≤ 30 ∧ 0 ≤ (a3 % 100) ∧ (a3 % 100) ≤ 16
                    · replace f := f.trans (pf_call_eq ((nf_areChangesR (V := W) a1 a2 (a3 % 100)).1 c65))
                      replace f := f.trans (if_neg (by decide))
                      obtain ⟨u67, hu68⟩ : ∃ y, W 90 23 = y := ⟨_, rfl⟩
                      replace f := f.trans (pf_let_eq hu68)
                      by_cases c69 : ¬ (u67 = 10)
                      · replace f := f.trans (if_pos c69)
                        exfalso; omega
                      · replace f := f.trans (if_neg c69)
                        exact ⟨(-1), V, W, e, f, hq0⟩
                    · replace f := f.trans (pf_call_eq ((nf_areChangesR (V := W) a1 a2 (a3 % 100)).2 c65))
                      replace f := f.trans (if_pos (by decide))
                      exact ⟨(-1), V, W, e, f, hq0⟩
            · replace e := e.trans (pf_call_eq ((nf_hasScene (V := V) hs).2 c39))
              replace e := e.trans (if_pos (by decide))
              have f := F_X12_person_eq a1 a2 a3 W
              by_cases c70 : a3 < 0
              · replace f := f.trans (if_pos c70)
                exact ⟨(-1), V, W, e, f, hq0⟩
              · replace f := f.trans (if_neg c70)
                by_cases c71 : 3 < (a3 / 100)
                · replace f := f.trans (if_pos c71)
                  exact ⟨(-1), V, W, e, f, hq0⟩
                · replace f := f.trans (if_neg c71)
                  by_cases c72 : -30 ≤ a1 ∧ a1 ≤ 30 ∧ -30 ≤ a2 ∧ a2 ≤ 30 ∧ 0 ≤ (a3 % 100) ∧ (a3 % 100) ≤ 16
                  · replace f := f.trans (pf_call_eq ((nf_areChangesR (V := W) a1 a2 (a3 % 100)).1 c72))
                    replace f := f.trans (if_neg (by decide))
                    obtain ⟨u74, hu75⟩ : ∃ y, W 90 23 = y := ⟨_, rfl⟩
                    replace f := f.trans (pf_let_eq hu75)
                    by_cases c76 : ¬ (u74 = 10)
                    · replace f := f.trans (if_pos c76)
                      exfalso; omega
                    · replace f := f.trans (if_neg c76)
                      exact ⟨(-1), V, W, e, f, hq0⟩
                  · replace f := f.trans (pf_call_eq ((nf_areChangesR (V := W) a1 a2 (a3 % 100)).2 c72))
                    replace f := f.trans (if_pos (by decide))
                    exact ⟨(-1), V, W, e, f, hq0⟩
          · replace e := e.trans (pf_call_eq ((nf_isBelief (V := V) (a3 % 100)).2 c37))
            replace e := e.trans (if_pos (by decide))
            by_cases c77 : (0 : Int) < W 90 16
            · replace e := e.trans (pf_call_eq ((nf_hasScene (V := V) hs).1 c77))
              replace e := e.trans (if_neg (by decide))
              have f := F_X12_person_eq a1 a2 a3 W
              by_cases c79 : a3 < 0
              · replace f := f.trans (if_pos c79)
                exact ⟨(-1), V, W, e, f, hq0⟩
              · replace f := f.trans (if_neg c79)
                by_cases c80 : 3 < (a3 / 100)
                · replace f := f.trans (if_pos c80)
                  exact ⟨(-1), V, W, e, f, hq0⟩
                · replace f := f.trans (if_neg c80)
                  by_cases c81 : -30 ≤ a1 ∧ a1 ≤ 30 ∧ -30 ≤ a2 ∧ a2 ≤ 30 ∧ 0 ≤ (a3 % 100) ∧ (a3 % 100) ≤ 16
                  · replace f := f.trans (pf_call_eq ((nf_areChangesR (V := W) a1 a2 (a3 % 100)).1 c81))
                    replace f := f.trans (if_neg (by decide))
                    obtain ⟨u83, hu84⟩ : ∃ y, W 90 23 = y := ⟨_, rfl⟩
                    replace f := f.trans (pf_let_eq hu84)
                    by_cases c85 : ¬ (u83 = 10)
                    · replace f := f.trans (if_pos c85)
                      exfalso; omega
                    · replace f := f.trans (if_neg c85)
                      exact ⟨(-1), V, W, e, f, hq0⟩
                  · replace f := f.trans (pf_call_eq ((nf_areChangesR (V := W) a1 a2 (a3 % 100)).2 c81))
                    replace f := f.trans (if_pos (by decide))
                    exact ⟨(-1), V, W, e, f, hq0⟩
            · replace e := e.trans (pf_call_eq ((nf_hasScene (V := V) hs).2 c77))
              replace e := e.trans (if_pos (by decide))
              have f := F_X12_person_eq a1 a2 a3 W
              by_cases c86 : a3 < 0
              · replace f := f.trans (if_pos c86)
                exact ⟨(-1), V, W, e, f, hq0⟩
              · replace f := f.trans (if_neg c86)
                by_cases c87 : 3 < (a3 / 100)
                · replace f := f.trans (if_pos c87)
                  exact ⟨(-1), V, W, e, f, hq0⟩
                · replace f := f.trans (if_neg c87)
                  by_cases c88 : -30 ≤ a1 ∧ a1 ≤ 30 ∧ -30 ≤ a2 ∧ a2 ≤ 30 ∧ 0 ≤ (a3 % 100) ∧ (a3 % 100) ≤ 16
                  · replace f := f.trans (pf_call_eq ((nf_areChangesR (V := W) a1 a2 (a3 % 100)).1 c88))
                    replace f := f.trans (if_neg (by decide))
                    obtain ⟨u90, hu91⟩ : ∃ y, W 90 23 = y := ⟨_, rfl⟩
                    replace f := f.trans (pf_let_eq hu91)
                    by_cases c92 : ¬ (u90 = 10)
                    · replace f := f.trans (if_pos c92)
                      exfalso; omega
                    · replace f := f.trans (if_neg c92)
                      exact ⟨(-1), V, W, e, f, hq0⟩
                  · replace f := f.trans (pf_call_eq ((nf_areChangesR (V := W) a1 a2 (a3 % 100)).2 c88))
                    replace f := f.trans (if_pos (by decide))
                    exact ⟨(-1), V, W, e, f, hq0⟩
    · replace e := e.trans (pf_call_eq ((nf_areChanges (V := V) a1 a2).2 c1))
      replace e := e.trans (if_pos (by decide))
      by_cases c93 : (0 : Int) < W 90 16
      · replace e := e.trans (pf_call_eq ((nf_hasScene (V := V) hs).1 c93))
        replace e := e.trans (if_neg (by decide))
        have f := F_X12_person_eq a1 a2 a3 W
        by_cases c95 : a3 < 0
        · replace f := f.trans (if_pos c95)
          exact ⟨(-1), V, W, e, f, hq0⟩
        · replace f := f.trans (if_neg c95)
          by_cases c96 : 3 < (a3 / 100)
          · replace f := f.trans (if_pos c96)
            exact ⟨(-1), V, W, e, f, hq0⟩
          · replace f := f.trans (if_neg c96)
            by_cases c97 : -30 ≤ a1 ∧ a1 ≤ 30 ∧ -30 ≤ a2 ∧ a2 ≤ 30 ∧ 0 ≤ (a3 % 100) ∧ (a3 % 100) ≤ 16
            · replace f := f.trans (pf_call_eq ((nf_areChangesR (V := W) a1 a2 (a3 % 100)).1 c97))
              replace f := f.trans (if_neg (by decide))
              obtain ⟨u99, hu100⟩ : ∃ y, W 90 23 = y := ⟨_, rfl⟩
              replace f := f.trans (pf_let_eq hu100)
              by_cases c101 : ¬ (u99 = 10)
              · replace f := f.trans (if_pos c101)
                exfalso; omega
              · replace f := f.trans (if_neg c101)
                exact ⟨(-1), V, W, e, f, hq0⟩
            · replace f := f.trans (pf_call_eq ((nf_areChangesR (V := W) a1 a2 (a3 % 100)).2 c97))
              replace f := f.trans (if_pos (by decide))
              exact ⟨(-1), V, W, e, f, hq0⟩
      · replace e := e.trans (pf_call_eq ((nf_hasScene (V := V) hs).2 c93))
        replace e := e.trans (if_pos (by decide))
        have f := F_X12_person_eq a1 a2 a3 W
        by_cases c102 : a3 < 0
        · replace f := f.trans (if_pos c102)
          exact ⟨(-1), V, W, e, f, hq0⟩
        · replace f := f.trans (if_neg c102)
          by_cases c103 : 3 < (a3 / 100)
          · replace f := f.trans (if_pos c103)
            exact ⟨(-1), V, W, e, f, hq0⟩
          · replace f := f.trans (if_neg c103)
            by_cases c104 : -30 ≤ a1 ∧ a1 ≤ 30 ∧ -30 ≤ a2 ∧ a2 ≤ 30 ∧ 0 ≤ (a3 % 100) ∧ (a3 % 100) ≤ 16
            · replace f := f.trans (pf_call_eq ((nf_areChangesR (V := W) a1 a2 (a3 % 100)).1 c104))
              replace f := f.trans (if_neg (by decide))
              obtain ⟨u106, hu107⟩ : ∃ y, W 90 23 = y := ⟨_, rfl⟩
              replace f := f.trans (pf_let_eq hu107)
              by_cases c108 : ¬ (u106 = 10)
              · replace f := f.trans (if_pos c108)
                exfalso; omega
              · replace f := f.trans (if_neg c108)
                exact ⟨(-1), V, W, e, f, hq0⟩
            · replace f := f.trans (pf_call_eq ((nf_areChangesR (V := W) a1 a2 (a3 % 100)).2 c104))
              replace f := f.trans (if_pos (by decide))
              exact ⟨(-1), V, W, e, f, hq0⟩
  · skip
    rw [show (V 0 8).toNat = 51 by omega] at h3
    obtain ⟨s0, s10, sj, s4, -⟩ := h3
    have e := F_X11_person_eq a1 a2 a3 V
    by_cases c1 : -30 ≤ a1 ∧ a1 ≤ 30 ∧ -30 ≤ a2 ∧ a2 ≤ 30
    · replace e := e.trans (pf_call_eq ((nf_areChanges (V := V) a1 a2).1 c1))
      replace e := e.trans (if_neg (by decide))
      by_cases c3 : a3 < 0
      · replace e := e.trans (if_pos c3)
        by_cases c4 : (0 : Int) < W 90 16
        · replace e := e.trans (pf_call_eq ((nf_hasScene (V := V) hs).1 c4))
          replace e := e.trans (if_neg (by decide))
          have f := F_X12_person_eq a1 a2 a3 W
          by_cases c6 : a3 < 0
          · replace f := f.trans (if_pos c6)
            exact ⟨(-1), V, W, e, f, hq0⟩
          · replace f := f.trans (if_neg c6)
            by_cases c7 : 3 < (a3 / 100)
            · replace f := f.trans (if_pos c7)
              exact ⟨(-1), V, W, e, f, hq0⟩
            · replace f := f.trans (if_neg c7)
              by_cases c8 : -30 ≤ a1 ∧ a1 ≤ 30 ∧ -30 ≤ a2 ∧ a2 ≤ 30 ∧ 0 ≤ (a3 % 100) ∧ (a3 % 100) ≤ 16
              · replace f := f.trans (pf_call_eq ((nf_areChangesR (V := W) a1 a2 (a3 % 100)).1 c8))
                replace f := f.trans (if_neg (by decide))
                obtain ⟨u10, hu11⟩ : ∃ y, W 90 23 = y := ⟨_, rfl⟩
                replace f := f.trans (pf_let_eq hu11)
                by_cases c12 : ¬ (u10 = 10)
                · replace f := f.trans (if_pos c12)
                  exfalso; omega
                · replace f := f.trans (if_neg c12)
                  exact ⟨(-1), V, W, e, f, hq0⟩
              · replace f := f.trans (pf_call_eq ((nf_areChangesR (V := W) a1 a2 (a3 % 100)).2 c8))
                replace f := f.trans (if_pos (by decide))
                exact ⟨(-1), V, W, e, f, hq0⟩
        · replace e := e.trans (pf_call_eq ((nf_hasScene (V := V) hs).2 c4))
          replace e := e.trans (if_pos (by decide))
          have f := F_X12_person_eq a1 a2 a3 W
          by_cases c13 : a3 < 0
          · replace f := f.trans (if_pos c13)
            exact ⟨(-1), V, W, e, f, hq0⟩
          · replace f := f.trans (if_neg c13)
            by_cases c14 : 3 < (a3 / 100)
            · replace f := f.trans (if_pos c14)
              exact ⟨(-1), V, W, e, f, hq0⟩
            · replace f := f.trans (if_neg c14)
              by_cases c15 : -30 ≤ a1 ∧ a1 ≤ 30 ∧ -30 ≤ a2 ∧ a2 ≤ 30 ∧ 0 ≤ (a3 % 100) ∧ (a3 % 100) ≤ 16
              · replace f := f.trans (pf_call_eq ((nf_areChangesR (V := W) a1 a2 (a3 % 100)).1 c15))
                replace f := f.trans (if_neg (by decide))
                obtain ⟨u17, hu18⟩ : ∃ y, W 90 23 = y := ⟨_, rfl⟩
                replace f := f.trans (pf_let_eq hu18)
                by_cases c19 : ¬ (u17 = 10)
                · replace f := f.trans (if_pos c19)
                  exfalso; omega
                · replace f := f.trans (if_neg c19)
                  exact ⟨(-1), V, W, e, f, hq0⟩
              · replace f := f.trans (pf_call_eq ((nf_areChangesR (V := W) a1 a2 (a3 % 100)).2 c15))
                replace f := f.trans (if_pos (by decide))
                exact ⟨(-1), V, W, e, f, hq0⟩
      · replace e := e.trans (if_neg c3)
        by_cases c20 : 3 < (a3 / 100)
        · replace e := e.trans (if_pos c20)
          by_cases c21 : (0 : Int) < W 90 16
          · replace e := e.trans (pf_call_eq ((nf_hasScene (V := V) hs).1 c21))
            replace e := e.trans (if_neg (by decide))
            have f := F_X12_person_eq a1 a2 a3 W
            by_cases c23 : a3 < 0
            · replace f := f.trans (if_pos c23)
              exact ⟨(-1), V, W, e, f, hq0⟩
            · replace f := f.trans (if_neg c23)
              by_cases c24 : 3 < (a3 / 100)
              · replace f := f.trans (if_pos c24)
                exact ⟨(-1), V, W, e, f, hq0⟩
              · replace f := f.trans (if_neg c24)
                by_cases c25 : -30 ≤ a1 ∧ a1 ≤ 30 ∧ -30 ≤ a2 ∧ a2 ≤ 30 ∧ 0 ≤ (a3 % 100) ∧ (a3 % 100) ≤ 16
                · replace f := f.trans (pf_call_eq ((nf_areChangesR (V := W) a1 a2 (a3 % 100)).1 c25))
                  replace f := f.trans (if_neg (by decide))
                  obtain ⟨u27, hu28⟩ : ∃ y, W 90 23 = y := ⟨_, rfl⟩
                  replace f := f.trans (pf_let_eq hu28)
                  by_cases c29 : ¬ (u27 = 10)
                  · replace f := f.trans (if_pos c29)
                    exfalso; omega
                  · replace f := f.trans (if_neg c29)
                    exact ⟨(-1), V, W, e, f, hq0⟩
                · replace f := f.trans (pf_call_eq ((nf_areChangesR (V := W) a1 a2 (a3 % 100)).2 c25))
                  replace f := f.trans (if_pos (by decide))
                  exact ⟨(-1), V, W, e, f, hq0⟩
          · replace e := e.trans (pf_call_eq ((nf_hasScene (V := V) hs).2 c21))
            replace e := e.trans (if_pos (by decide))
            have f := F_X12_person_eq a1 a2 a3 W
            by_cases c30 : a3 < 0
            · replace f := f.trans (if_pos c30)
              exact ⟨(-1), V, W, e, f, hq0⟩
            · replace f := f.trans (if_neg c30)
              by_cases c31 : 3 < (a3 / 100)
              · replace f := f.trans (if_pos c31)
                exact ⟨(-1), V, W, e, f, hq0⟩
              · replace f := f.trans (if_neg c31)
                by_cases c32 : -30 ≤ a1 ∧ a1 ≤ 30 ∧ -30 ≤ a2 ∧ a2 ≤ 30 ∧ 0 ≤ (a3 % 100) ∧ (a3 % 100) ≤ 16
                · replace f := f.trans (pf_call_eq ((nf_areChangesR (V := W) a1 a2 (a3 % 100)).1 c32))
                  replace f := f.trans (if_neg (by decide))
                  obtain ⟨u34, hu35⟩ : ∃ y, W 90 23 = y := ⟨_, rfl⟩
                  replace f := f.trans (pf_let_eq hu35)
                  by_cases c36 : ¬ (u34 = 10)
                  · replace f := f.trans (if_pos c36)
                    exfalso; omega
                  · replace f := f.trans (if_neg c36)
                    exact ⟨(-1), V, W, e, f, hq0⟩
                · replace f := f.trans (pf_call_eq ((nf_areChangesR (V := W) a1 a2 (a3 % 100)).2 c32))
                  replace f := f.trans (if_pos (by decide))
                  exact ⟨(-1), V, W, e, f, hq0⟩
        · replace e := e.trans (if_neg c20)
          by_cases c37 : 0 ≤ (a3 % 100) ∧ (a3 % 100) ≤ 16
          · replace e := e.trans (pf_call_eq ((nf_isBelief (V := V) (a3 % 100)).1 c37))
            replace e := e.trans (if_neg (by decide))
            by_cases c39 : (0 : Int) < W 90 16
            · replace e := e.trans (pf_call_eq ((nf_hasScene (V := V) hs).1 c39))
              replace e := e.trans (if_neg (by decide))
              obtain ⟨u41, hu42⟩ : ∃ y, V 4 1 = y := ⟨_, rfl⟩
              replace e := e.trans (pf_let_eq hu42)
              by_cases c43 : u41 < 10
              · replace e := e.trans (if_pos c43)
                have q44 := F_X7_addPerson_eq a1 a2 (a3 % 100) (a3 / 100) V
                obtain ⟨u45, hu46⟩ : ∃ y, V 4 1 = y := ⟨_, rfl⟩
                replace q44 := q44.trans (pf_let_eq hu46)
                by_cases c47 : u45 < 10
                · replace q44 := q44.trans (if_pos c47)
                  have q48 := F_X7_changePerson_eq u45 a1 a2 (a3 % 100) (pm_up V 8 (u45 : Int).toNat (a3 / 100))
                  replace q44 := q44.trans (pf_call_eq q48)
                  replace e := e.trans (pf_call_eq q44)
                  have f := F_X12_person_eq a1 a2 a3 W
                  by_cases c49 : a3 < 0
                  · replace f := f.trans (if_pos c49)
                    exfalso; omega
                  · replace f := f.trans (if_neg c49)
                    by_cases c50 : 3 < (a3 / 100)
                    · replace f := f.trans (if_pos c50)
                      exfalso; omega
                    · replace f := f.trans (if_neg c50)
                      by_cases c51 : -30 ≤ a1 ∧ a1 ≤ 30 ∧ -30 ≤ a2 ∧ a2 ≤ 30 ∧ 0 ≤ (a3 % 100) ∧ (a3 % 100) ≤ 16
                      · replace f := f.trans (pf_call_eq ((nf_areChangesR (V := W) a1 a2 (a3 % 100)).1 c51))
                        replace f := f.trans (if_neg (by decide))
                        obtain ⟨u53, hu54⟩ : ∃ y, W 90 23 = y := ⟨_, rfl⟩
                        replace f := f.trans (pf_let_eq hu54)
                        by_cases c55 : ¬ (u53 = 10)
                        · replace f := f.trans (if_pos c55)
                          first | (exfalso; omega) | exact ⟨_, _, _, e, f.trans (congrArg (fun z => (z, (pm_up (pm_up (pm_up (pm_up (pm_up W 100 ((4 * u53) : Int).toNat a1) 100 (((4 * u53) + 1) : Int).toNat a2) 100 (((4 * u53) + 2) : Int).toNat (a3 % 100)) 100 (((4 * u53) + 3) : Int).toNat (a3 / 100)) 90 23 (u53 + 1)))) (show ((u53 + 1) - 1) = ((u45 + 1) - 1) by omega)), (hq0.cnt (fun k i q q4 => by unfold sq_nd at q; rw [pm_up_c (by omega), pm_up_c (by omega), pm_up_c (by omega), pm_up_c (by omega), pm_up_c (by omega)]) (show (u45 + 1) = (u53 + 1) by omega) (show V 4 6 = W 90 25 by omega) (fun i q => by rcases (show i = 16 ∨ i = 19 ∨ i = 20 ∨ i = 21 ∨ i = 35 by (simp only [List.contains_eq_mem, List.mem_cons, List.not_mem_nil, or_false, decide_eq_true_eq] at q; exact q)) with rfl | rfl | rfl | rfl | rfl <;> rfl) (fun k q => by rcases (show k = 97 ∨ k = 98 ∨ k = 99 ∨ k = 102 ∨ k = 103 ∨ k = 105 by (simp only [List.contains_eq_mem, List.mem_cons, List.not_mem_nil, or_false, decide_eq_true_eq] at q; exact q)) with rfl | rfl | rfl | rfl | rfl | rfl <;> rfl))⟩
                        · replace f := f.trans (if_neg c55)
                          exfalso; omega
                      · replace f := f.trans (pf_call_eq ((nf_areChangesR (V := W) a1 a2 (a3 % 100)).2 c51))
                        replace f := f.trans (if_pos (by decide))
                        exfalso; omega
                · replace q44 := q44.trans (if_neg c47)
                  replace e := e.trans (pf_call_eq q44)
                  have f := F_X12_person_eq a1 a2 a3 W
                  by_cases c56 : a3 < 0
                  · replace f := f.trans (if_pos c56)
                    exact ⟨(-1), V, W, e, f, hq0⟩
                  · replace f := f.trans (if_neg c56)
                    by_cases c57 : 3 < (a3 / 100)
                    · replace f := f.trans (if_pos c57)
                      exact ⟨(-1), V, W, e, f, hq0⟩
                    · replace f := f.trans (if_neg c57)
                      by_cases c58 : -30 ≤ a1 ∧ a1 ≤ 30 ∧ -30 ≤ a2 ∧ a2 ≤ 30 ∧ 0 ≤ (a3 % 100) ∧ (a3 % 100) ≤ 16
                      · replace f := f.trans (pf_call_eq ((nf_areChangesR (V := W) a1 a2 (a3 % 100)).1 c58))
                        replace f := f.trans (if_neg (by decide))
                        obtain ⟨u60, hu61⟩ : ∃ y, W 90 23 = y := ⟨_, rfl⟩
                        replace f := f.trans (pf_let_eq hu61)
                        by_cases c62 : ¬ (u60 = 10)
                        · replace f := f.trans (if_pos c62)
                          exfalso; omega
                        · replace f := f.trans (if_neg c62)
                          exact ⟨(-1), V, W, e, f, hq0⟩
                      · replace f := f.trans (pf_call_eq ((nf_areChangesR (V := W) a1 a2 (a3 % 100)).2 c58))
                        replace f := f.trans (if_pos (by decide))
                        exact ⟨(-1), V, W, e, f, hq0⟩
              · replace e := e.trans (if_neg c43)
                have f := F_X12_person_eq a1 a2 a3 W
                by_cases c63 : a3 < 0
                · replace f := f.trans (if_pos c63)
                  exact ⟨(-1), V, W, e, f, hq0⟩
                · replace f := f.trans (if_neg c63)
                  by_cases c64 : 3 < (a3 / 100)
                  · replace f := f.trans (if_pos c64)
                    exact ⟨(-1), V, W, e, f, hq0⟩
                  · replace f := f.trans (if_neg c64)
                    by_cases c65 : -30 ≤ a1 ∧ a1 ≤ 30 ∧ -30 ≤ a2 ∧ a2 ≤ 30 ∧ 0 ≤ (a3 % 100) ∧ (a3 % 100) ≤ 16
                    · replace f := f.trans (pf_call_eq ((nf_areChangesR (V := W) a1 a2 (a3 % 100)).1 c65))
                      replace f := f.trans (if_neg (by decide))
                      obtain ⟨u67, hu68⟩ : ∃ y, W 90 23 = y := ⟨_, rfl⟩
                      replace f := f.trans (pf_let_eq hu68)
                      by_cases c69 : ¬ (u67 = 10)
                      · replace f := f.trans (if_pos c69)
                        exfalso; omega
                      · replace f := f.trans (if_neg c69)
                        exact ⟨(-1), V, W, e, f, hq0⟩
                    · replace f := f.trans (pf_call_eq ((nf_areChangesR (V := W) a1 a2 (a3 % 100)).2 c65))
                      replace f := f.trans (if_pos (by decide))
                      exact ⟨(-1), V, W, e, f, hq0⟩
            · replace e := e.trans (pf_call_eq ((nf_hasScene (V := V) hs).2 c39))
              replace e := e.trans (if_pos (by decide))
              have f := F_X12_person_eq a1 a2 a3 W
              by_cases c70 : a3 < 0
              · replace f := f.trans (if_pos c70)
                exact ⟨(-1), V, W, e, f, hq0⟩
              · replace f := f.trans (if_neg c70)
                by_cases c71 : 3 < (a3 / 100)
                · replace f := f.trans (if_pos c71)
                  exact ⟨(-1), V, W, e, f, hq0⟩
                · replace f := f.trans (if_neg c71)
                  by_cases c72 : -30 ≤ a1 ∧ a1 ≤ 30 ∧ -30 ≤ a2 ∧ a2 ≤ 30 ∧ 0 ≤ (a3 % 100) ∧ (a3 % 100) ≤ 16
                  · replace f := f.trans (pf_call_eq ((nf_areChangesR (V := W) a1 a2 (a3 % 100)).1 c72))
                    replace f := f.trans (if_neg (by decide))
                    obtain ⟨u74, hu75⟩ : ∃ y, W 90 23 = y := ⟨_, rfl⟩
                    replace f := f.trans (pf_let_eq hu75)
                    by_cases c76 : ¬ (u74 = 10)
                    · replace f := f.trans (if_pos c76)
                      exfalso; omega
                    · replace f := f.trans (if_neg c76)
                      exact ⟨(-1), V, W, e, f, hq0⟩
                  · replace f := f.trans (pf_call_eq ((nf_areChangesR (V := W) a1 a2 (a3 % 100)).2 c72))
                    replace f := f.trans (if_pos (by decide))
                    exact ⟨(-1), V, W, e, f, hq0⟩
          · replace e := e.trans (pf_call_eq ((nf_isBelief (V := V) (a3 % 100)).2 c37))
            replace e := e.trans (if_pos (by decide))
            by_cases c77 : (0 : Int) < W 90 16
            · replace e := e.trans (pf_call_eq ((nf_hasScene (V := V) hs).1 c77))
              replace e := e.trans (if_neg (by decide))
              have f := F_X12_person_eq a1 a2 a3 W
              by_cases c79 : a3 < 0
              · replace f := f.trans (if_pos c79)
                exact ⟨(-1), V, W, e, f, hq0⟩
              · replace f := f.trans (if_neg c79)
                by_cases c80 : 3 < (a3 / 100)
                · replace f := f.trans (if_pos c80)
                  exact ⟨(-1), V, W, e, f, hq0⟩
                · replace f := f.trans (if_neg c80)
                  by_cases c81 : -30 ≤ a1 ∧ a1 ≤ 30 ∧ -30 ≤ a2 ∧ a2 ≤ 30 ∧ 0 ≤ (a3 % 100) ∧ (a3 % 100) ≤ 16
                  · replace f := f.trans (pf_call_eq ((nf_areChangesR (V := W) a1 a2 (a3 % 100)).1 c81))
                    replace f := f.trans (if_neg (by decide))
                    obtain ⟨u83, hu84⟩ : ∃ y, W 90 23 = y := ⟨_, rfl⟩
                    replace f := f.trans (pf_let_eq hu84)
                    by_cases c85 : ¬ (u83 = 10)
                    · replace f := f.trans (if_pos c85)
                      exfalso; omega
                    · replace f := f.trans (if_neg c85)
                      exact ⟨(-1), V, W, e, f, hq0⟩
                  · replace f := f.trans (pf_call_eq ((nf_areChangesR (V := W) a1 a2 (a3 % 100)).2 c81))
                    replace f := f.trans (if_pos (by decide))
                    exact ⟨(-1), V, W, e, f, hq0⟩
            · replace e := e.trans (pf_call_eq ((nf_hasScene (V := V) hs).2 c77))
              replace e := e.trans (if_pos (by decide))
              have f := F_X12_person_eq a1 a2 a3 W
              by_cases c86 : a3 < 0
              · replace f := f.trans (if_pos c86)
                exact ⟨(-1), V, W, e, f, hq0⟩
              · replace f := f.trans (if_neg c86)
                by_cases c87 : 3 < (a3 / 100)
                · replace f := f.trans (if_pos c87)
                  exact ⟨(-1), V, W, e, f, hq0⟩
                · replace f := f.trans (if_neg c87)
                  by_cases c88 : -30 ≤ a1 ∧ a1 ≤ 30 ∧ -30 ≤ a2 ∧ a2 ≤ 30 ∧ 0 ≤ (a3 % 100) ∧ (a3 % 100) ≤ 16
                  · replace f := f.trans (pf_call_eq ((nf_areChangesR (V := W) a1 a2 (a3 % 100)).1 c88))
                    replace f := f.trans (if_neg (by decide))
                    obtain ⟨u90, hu91⟩ : ∃ y, W 90 23 = y := ⟨_, rfl⟩
                    replace f := f.trans (pf_let_eq hu91)
                    by_cases c92 : ¬ (u90 = 10)
                    · replace f := f.trans (if_pos c92)
                      exfalso; omega
                    · replace f := f.trans (if_neg c92)
                      exact ⟨(-1), V, W, e, f, hq0⟩
                  · replace f := f.trans (pf_call_eq ((nf_areChangesR (V := W) a1 a2 (a3 % 100)).2 c88))
                    replace f := f.trans (if_pos (by decide))
                    exact ⟨(-1), V, W, e, f, hq0⟩
    · replace e := e.trans (pf_call_eq ((nf_areChanges (V := V) a1 a2).2 c1))
      replace e := e.trans (if_pos (by decide))
      by_cases c93 : (0 : Int) < W 90 16
      · replace e := e.trans (pf_call_eq ((nf_hasScene (V := V) hs).1 c93))
        replace e := e.trans (if_neg (by decide))
        have f := F_X12_person_eq a1 a2 a3 W
        by_cases c95 : a3 < 0
        · replace f := f.trans (if_pos c95)
          exact ⟨(-1), V, W, e, f, hq0⟩
        · replace f := f.trans (if_neg c95)
          by_cases c96 : 3 < (a3 / 100)
          · replace f := f.trans (if_pos c96)
            exact ⟨(-1), V, W, e, f, hq0⟩
          · replace f := f.trans (if_neg c96)
            by_cases c97 : -30 ≤ a1 ∧ a1 ≤ 30 ∧ -30 ≤ a2 ∧ a2 ≤ 30 ∧ 0 ≤ (a3 % 100) ∧ (a3 % 100) ≤ 16
            · replace f := f.trans (pf_call_eq ((nf_areChangesR (V := W) a1 a2 (a3 % 100)).1 c97))
              replace f := f.trans (if_neg (by decide))
              obtain ⟨u99, hu100⟩ : ∃ y, W 90 23 = y := ⟨_, rfl⟩
              replace f := f.trans (pf_let_eq hu100)
              by_cases c101 : ¬ (u99 = 10)
              · replace f := f.trans (if_pos c101)
                exfalso; omega
              · replace f := f.trans (if_neg c101)
                exact ⟨(-1), V, W, e, f, hq0⟩
            · replace f := f.trans (pf_call_eq ((nf_areChangesR (V := W) a1 a2 (a3 % 100)).2 c97))
              replace f := f.trans (if_pos (by decide))
              exact ⟨(-1), V, W, e, f, hq0⟩
      · replace e := e.trans (pf_call_eq ((nf_hasScene (V := V) hs).2 c93))
        replace e := e.trans (if_pos (by decide))
        have f := F_X12_person_eq a1 a2 a3 W
        by_cases c102 : a3 < 0
        · replace f := f.trans (if_pos c102)
          exact ⟨(-1), V, W, e, f, hq0⟩
        · replace f := f.trans (if_neg c102)
          by_cases c103 : 3 < (a3 / 100)
          · replace f := f.trans (if_pos c103)
            exact ⟨(-1), V, W, e, f, hq0⟩
          · replace f := f.trans (if_neg c103)
            by_cases c104 : -30 ≤ a1 ∧ a1 ≤ 30 ∧ -30 ≤ a2 ∧ a2 ≤ 30 ∧ 0 ≤ (a3 % 100) ∧ (a3 % 100) ≤ 16
            · replace f := f.trans (pf_call_eq ((nf_areChangesR (V := W) a1 a2 (a3 % 100)).1 c104))
              replace f := f.trans (if_neg (by decide))
              obtain ⟨u106, hu107⟩ : ∃ y, W 90 23 = y := ⟨_, rfl⟩
              replace f := f.trans (pf_let_eq hu107)
              by_cases c108 : ¬ (u106 = 10)
              · replace f := f.trans (if_pos c108)
                exfalso; omega
              · replace f := f.trans (if_neg c108)
                exact ⟨(-1), V, W, e, f, hq0⟩
            · replace f := f.trans (pf_call_eq ((nf_areChangesR (V := W) a1 a2 (a3 % 100)).2 c104))
              replace f := f.trans (if_pos (by decide))
              exact ⟨(-1), V, W, e, f, hq0⟩
set_option maxHeartbeats 40000000 in
theorem mB_becomes {V W : pm_M} (hq : rq V W) (a1 a2 a3 a4 : Int) : ∃ y V1 W1, F_X11_becomes a1 a2 a3 a4 V = (y, V1) ∧ F_X12_becomes a1 a2 a3 a4 W = (y, W1) ∧ rq V1 W1 := by
  have hq0 := hq
  have hs := hq.hs
  obtain ⟨h1, h2, h3, h4, h5, h6, h7⟩ := hq
  have e := F_X11_becomes_eq a1 a2 a3 a4 V
  by_cases c1 : 0 ≤ a1 ∧ a1 < V 4 1
  · replace e := e.trans (pf_call_eq ((nf_isPerson (V := V) a1).1 c1))
    replace e := e.trans (if_neg (by decide))
    by_cases c3 : -30 ≤ a2 ∧ a2 ≤ 30 ∧ -30 ≤ a3 ∧ a3 ≤ 30
    · replace e := e.trans (pf_call_eq ((nf_areChanges (V := V) a2 a3).1 c3))
      replace e := e.trans (if_neg (by decide))
      by_cases c5 : 0 ≤ a4 ∧ a4 ≤ 16
      · replace e := e.trans (pf_call_eq ((nf_isBelief (V := V) a4).1 c5))
        replace e := e.trans (if_pos (by decide))
        have q7 := F_X7_changePerson_eq a1 a2 a3 a4 V
        replace e := e.trans (pf_call_eq q7)
        have f := F_X12_becomes_eq a1 a2 a3 a4 W
        by_cases c8 : 0 ≤ a1 ∧ a1 < W 90 23
        · replace f := f.trans (pf_call_eq ((nf_isPersonR (V := W) a1).1 c8))
          replace f := f.trans (if_neg (by decide))
          by_cases c10 : -30 ≤ a2 ∧ a2 ≤ 30 ∧ -30 ≤ a3 ∧ a3 ≤ 30 ∧ 0 ≤ a4 ∧ a4 ≤ 16
          · replace f := f.trans (pf_call_eq ((nf_areChangesR (V := W) a2 a3 a4).1 c10))
            replace f := f.trans (if_pos (by decide))
            first | (exfalso; omega) | exact ⟨_, _, _, e, f.trans (congrArg (fun z => (z, (pm_up (pm_up (pm_up W 100 ((4 * a1) : Int).toNat a2) 100 (((4 * a1) + 1) : Int).toNat a3) 100 (((4 * a1) + 2) : Int).toNat a4))) (show 1 = 1 by omega)), (hq0.cnt (fun k i q q4 => by unfold sq_nd at q; rw [pm_up_c (by omega), pm_up_c (by omega), pm_up_c (by omega)]) (show V 4 1 = W 90 23 by omega) (show V 4 6 = W 90 25 by omega) (fun i q => by rcases (show i = 16 ∨ i = 19 ∨ i = 20 ∨ i = 21 ∨ i = 35 by (simp only [List.contains_eq_mem, List.mem_cons, List.not_mem_nil, or_false, decide_eq_true_eq] at q; exact q)) with rfl | rfl | rfl | rfl | rfl <;> rfl) (fun k q => by rcases (show k = 97 ∨ k = 98 ∨ k = 99 ∨ k = 102 ∨ k = 103 ∨ k = 105 by (simp only [List.contains_eq_mem, List.mem_cons, List.not_mem_nil, or_false, decide_eq_true_eq] at q; exact q)) with rfl | rfl | rfl | rfl | rfl | rfl <;> rfl))⟩
          · replace f := f.trans (pf_call_eq ((nf_areChangesR (V := W) a2 a3 a4).2 c10))
            replace f := f.trans (if_neg (by decide))
            exfalso; omega
        · replace f := f.trans (pf_call_eq ((nf_isPersonR (V := W) a1).2 c8))
          replace f := f.trans (if_pos (by decide))
          exfalso; omega
      · replace e := e.trans (pf_call_eq ((nf_isBelief (V := V) a4).2 c5))
        replace e := e.trans (if_neg (by decide))
        have f := F_X12_becomes_eq a1 a2 a3 a4 W
        by_cases c12 : 0 ≤ a1 ∧ a1 < W 90 23
        · replace f := f.trans (pf_call_eq ((nf_isPersonR (V := W) a1).1 c12))
          replace f := f.trans (if_neg (by decide))
          by_cases c14 : -30 ≤ a2 ∧ a2 ≤ 30 ∧ -30 ≤ a3 ∧ a3 ≤ 30 ∧ 0 ≤ a4 ∧ a4 ≤ 16
          · replace f := f.trans (pf_call_eq ((nf_areChangesR (V := W) a2 a3 a4).1 c14))
            replace f := f.trans (if_pos (by decide))
            exfalso; omega
          · replace f := f.trans (pf_call_eq ((nf_areChangesR (V := W) a2 a3 a4).2 c14))
            replace f := f.trans (if_neg (by decide))
            exact ⟨0, V, W, e, f, hq0⟩
        · replace f := f.trans (pf_call_eq ((nf_isPersonR (V := W) a1).2 c12))
          replace f := f.trans (if_pos (by decide))
          exact ⟨0, V, W, e, f, hq0⟩
    · replace e := e.trans (pf_call_eq ((nf_areChanges (V := V) a2 a3).2 c3))
      replace e := e.trans (if_pos (by decide))
      have f := F_X12_becomes_eq a1 a2 a3 a4 W
      by_cases c16 : 0 ≤ a1 ∧ a1 < W 90 23
      · replace f := f.trans (pf_call_eq ((nf_isPersonR (V := W) a1).1 c16))
        replace f := f.trans (if_neg (by decide))
        by_cases c18 : -30 ≤ a2 ∧ a2 ≤ 30 ∧ -30 ≤ a3 ∧ a3 ≤ 30 ∧ 0 ≤ a4 ∧ a4 ≤ 16
        · replace f := f.trans (pf_call_eq ((nf_areChangesR (V := W) a2 a3 a4).1 c18))
          replace f := f.trans (if_pos (by decide))
          exfalso; omega
        · replace f := f.trans (pf_call_eq ((nf_areChangesR (V := W) a2 a3 a4).2 c18))
          replace f := f.trans (if_neg (by decide))
          exact ⟨0, V, W, e, f, hq0⟩
      · replace f := f.trans (pf_call_eq ((nf_isPersonR (V := W) a1).2 c16))
        replace f := f.trans (if_pos (by decide))
        exact ⟨0, V, W, e, f, hq0⟩
  · replace e := e.trans (pf_call_eq ((nf_isPerson (V := V) a1).2 c1))
    replace e := e.trans (if_pos (by decide))
    have f := F_X12_becomes_eq a1 a2 a3 a4 W
    by_cases c20 : 0 ≤ a1 ∧ a1 < W 90 23
    · replace f := f.trans (pf_call_eq ((nf_isPersonR (V := W) a1).1 c20))
      replace f := f.trans (if_neg (by decide))
      by_cases c22 : -30 ≤ a2 ∧ a2 ≤ 30 ∧ -30 ≤ a3 ∧ a3 ≤ 30 ∧ 0 ≤ a4 ∧ a4 ≤ 16
      · replace f := f.trans (pf_call_eq ((nf_areChangesR (V := W) a2 a3 a4).1 c22))
        replace f := f.trans (if_pos (by decide))
        exfalso; omega
      · replace f := f.trans (pf_call_eq ((nf_areChangesR (V := W) a2 a3 a4).2 c22))
        replace f := f.trans (if_neg (by decide))
        exact ⟨0, V, W, e, f, hq0⟩
    · replace f := f.trans (pf_call_eq ((nf_isPersonR (V := W) a1).2 c20))
      replace f := f.trans (if_pos (by decide))
      exact ⟨0, V, W, e, f, hq0⟩
set_option maxHeartbeats 40000000 in
theorem mB_undo {V W : pm_M} (hq : rq V W) (hb : 2 ≤ W 90 16 ∧ 0 ≤ W 90 23 ∧ W 90 23 ≤ 10 ∧ 0 ≤ W 90 25 ∧ W 90 25 ≤ 60)  : ∃ y V1 W1, F_X11_undo  V = (y, V1) ∧ F_X12_undo  W = (y, W1) ∧ rq V1 W1 := by
  have hq0 := hq
  have hs := hq.hs
  obtain ⟨h1, h2, h3, h4, h5, h6, h7⟩ := hq
  have e := F_X11_undo_eq  V
  obtain ⟨u1, hu2⟩ : ∃ y, V 4 6 = y := ⟨_, rfl⟩
  replace e := e.trans (pf_let_eq hu2)
  by_cases c3 : 0 < u1
  · replace e := e.trans (if_pos c3)
    have f := F_X12_undo_eq  W
    obtain ⟨u4, hu5⟩ : ∃ y, W 90 25 = y := ⟨_, rfl⟩
    replace f := f.trans (pf_let_eq hu5)
    by_cases c6 : ¬ (u4 = 0)
    · replace f := f.trans (if_pos c6)
      first | (exfalso; omega) | exact ⟨_, _, _, e, f.trans (congrArg (fun z => (z, (pm_up W 90 25 (u4 - 1)))) (show (u4 - 1) = (u1 - 1) by omega)), (hq0.cnt (fun k i q q4 => by unfold sq_nd at q; rw [pm_up_c (by omega)]) (show V 4 1 = W 90 23 by omega) (show (u1 - 1) = (u4 - 1) by omega) (fun i q => by rcases (show i = 16 ∨ i = 19 ∨ i = 20 ∨ i = 21 ∨ i = 35 by (simp only [List.contains_eq_mem, List.mem_cons, List.not_mem_nil, or_false, decide_eq_true_eq] at q; exact q)) with rfl | rfl | rfl | rfl | rfl <;> rfl) (fun k q => by rcases (show k = 97 ∨ k = 98 ∨ k = 99 ∨ k = 102 ∨ k = 103 ∨ k = 105 by (simp only [List.contains_eq_mem, List.mem_cons, List.not_mem_nil, or_false, decide_eq_true_eq] at q; exact q)) with rfl | rfl | rfl | rfl | rfl | rfl <;> rfl))⟩
    · replace f := f.trans (if_neg c6)
      exfalso; omega
  · replace e := e.trans (if_neg c3)
    have f := F_X12_undo_eq  W
    obtain ⟨u7, hu8⟩ : ∃ y, W 90 25 = y := ⟨_, rfl⟩
    replace f := f.trans (pf_let_eq hu8)
    by_cases c9 : ¬ (u7 = 0)
    · replace f := f.trans (if_pos c9)
      exfalso; omega
    · replace f := f.trans (if_neg c9)
      exact ⟨(-1), V, W, e, f, hq0⟩
set_option maxHeartbeats 40000000 in
theorem mB_answer {V W : pm_M} (hq : rq V W) (hb : 2 ≤ W 90 16 ∧ 0 ≤ W 90 23 ∧ W 90 23 ≤ 10 ∧ 0 ≤ W 90 25 ∧ W 90 25 ≤ 60) (a1 a2 a3 a4 : Int) : ∃ y V1 W1, F_X11_answer a1 a2 a3 a4 V = (y, V1) ∧ F_X12_answer a1 a2 a3 a4 W = (y, W1) ∧ rq V1 W1 := by
  have hq0 := hq
  have hs := hq.hs
  obtain ⟨h1, h2, h3, h4, h5, h6, h7⟩ := hq
  rcases h1 with ⟨h8, -⟩ | ⟨h8, -⟩
  · skip
    rw [show (V 0 8).toNat = 45 by omega] at h3
    obtain ⟨s0, s10, sj, s4, -⟩ := h3
    have e := F_X11_answer_eq a1 a2 a3 a4 V
    by_cases c1 : 0 ≤ a1 ∧ a1 / 100 < V 4 1 ∧ a1 / 10 % 10 < W 90 16 ∧ a1 % 10 < W 90 16 ∧ 0 ≤ a2 ∧ a2 ≤ 99 ∧ -99 ≤ a3 ∧ a3 ≤ 99
    · replace e := e.trans (pf_call_eq ((nf_isTrial (V := V) hs a1 a2 a3).1 c1))
      replace e := e.trans (if_neg (by decide))
      by_cases c3 : a4 < 0
      · replace e := e.trans (if_pos c3)
        have f := F_X12_answer_eq a1 a2 a3 a4 W
        obtain ⟨u4, hu5⟩ : ∃ y, W 90 16 = y := ⟨_, rfl⟩
        replace f := f.trans (pf_let_eq hu5)
        obtain ⟨u6, hu7⟩ : ∃ y, W 90 25 = y := ⟨_, rfl⟩
        replace f := f.trans (pf_let_eq hu7)
        by_cases c8 : 0 ≤ a1 ∧ a1 / 100 < W 90 23 ∧ a1 / 10 % 10 < W 90 16 ∧ a1 % 10 < W 90 16 ∧ 0 ≤ a2 ∧ a2 ≤ 99 ∧ -99 ≤ a3 ∧ a3 ≤ 99
        · replace f := f.trans (pf_call_eq ((nf_isTrialR (V := W) a1 a2 a3).1 c8))
          replace f := f.trans (if_neg (by decide))
          by_cases c10 : a4 < 0
          · replace f := f.trans (if_pos c10)
            exact ⟨(-1), V, W, e, f, hq0⟩
          · replace f := f.trans (if_neg c10)
            by_cases c11 : 1 < (a4 / 100)
            · replace f := f.trans (if_pos c11)
              exact ⟨(-1), V, W, e, f, hq0⟩
            · replace f := f.trans (if_neg c11)
              by_cases c12 : u4 ≤ (a4 % 100)
              · replace f := f.trans (if_pos c12)
                exact ⟨(-1), V, W, e, f, hq0⟩
              · replace f := f.trans (if_neg c12)
                by_cases c13 : ¬ (u6 = 60)
                · replace f := f.trans (if_pos c13)
                  have q14 := F_X12_keepsAnswer_eq a1 a2 a3 (a4 % 100) (a4 / 100) W
                  obtain ⟨u15, hu16⟩ : ∃ y, W 90 16 = y := ⟨_, rfl⟩
                  replace q14 := q14.trans (pf_let_eq hu16)
                  obtain ⟨u17, hu18⟩ : ∃ y, W 90 25 = y := ⟨_, rfl⟩
                  replace q14 := q14.trans (pf_let_eq hu18)
                  replace f := f.trans (pf_call_eq q14)
                  obtain ⟨u19, hu20⟩ : ∃ y, (pm_up (pm_up (pm_up (pm_up (pm_up (pm_up W 101 ((5 * u17) : Int).toNat a1) 101 (((5 * u17) + 1) : Int).toNat a2) 101 (((5 * u17) + 2) : Int).toNat a3) 101 (((5 * u17) + 3) : Int).toNat (a4 % 100)) 101 (((5 * u17) + 4) : Int).toNat (a4 / 100)) 90 25 (u17 + 1)) 90 25 = y := ⟨_, rfl⟩
                  replace f := f.trans (pf_let_eq hu20)
                  have hu20' : (u17 + 1) = u19 := hu20
                  exfalso; omega
                · replace f := f.trans (if_neg c13)
                  exact ⟨(-1), V, W, e, f, hq0⟩
        · replace f := f.trans (pf_call_eq ((nf_isTrialR (V := W) a1 a2 a3).2 c8))
          replace f := f.trans (if_pos (by decide))
          exact ⟨(-1), V, W, e, f, hq0⟩
      · replace e := e.trans (if_neg c3)
        by_cases c21 : 1 < (a4 / 100)
        · replace e := e.trans (if_pos c21)
          have f := F_X12_answer_eq a1 a2 a3 a4 W
          obtain ⟨u22, hu23⟩ : ∃ y, W 90 16 = y := ⟨_, rfl⟩
          replace f := f.trans (pf_let_eq hu23)
          obtain ⟨u24, hu25⟩ : ∃ y, W 90 25 = y := ⟨_, rfl⟩
          replace f := f.trans (pf_let_eq hu25)
          by_cases c26 : 0 ≤ a1 ∧ a1 / 100 < W 90 23 ∧ a1 / 10 % 10 < W 90 16 ∧ a1 % 10 < W 90 16 ∧ 0 ≤ a2 ∧ a2 ≤ 99 ∧ -99 ≤ a3 ∧ a3 ≤ 99
          · replace f := f.trans (pf_call_eq ((nf_isTrialR (V := W) a1 a2 a3).1 c26))
            replace f := f.trans (if_neg (by decide))
            by_cases c28 : a4 < 0
            · replace f := f.trans (if_pos c28)
              exact ⟨(-1), V, W, e, f, hq0⟩
            · replace f := f.trans (if_neg c28)
              by_cases c29 : 1 < (a4 / 100)
              · replace f := f.trans (if_pos c29)
                exact ⟨(-1), V, W, e, f, hq0⟩
              · replace f := f.trans (if_neg c29)
                by_cases c30 : u22 ≤ (a4 % 100)
                · replace f := f.trans (if_pos c30)
                  exact ⟨(-1), V, W, e, f, hq0⟩
                · replace f := f.trans (if_neg c30)
                  by_cases c31 : ¬ (u24 = 60)
                  · replace f := f.trans (if_pos c31)
                    have q32 := F_X12_keepsAnswer_eq a1 a2 a3 (a4 % 100) (a4 / 100) W
                    obtain ⟨u33, hu34⟩ : ∃ y, W 90 16 = y := ⟨_, rfl⟩
                    replace q32 := q32.trans (pf_let_eq hu34)
                    obtain ⟨u35, hu36⟩ : ∃ y, W 90 25 = y := ⟨_, rfl⟩
                    replace q32 := q32.trans (pf_let_eq hu36)
                    replace f := f.trans (pf_call_eq q32)
                    obtain ⟨u37, hu38⟩ : ∃ y, (pm_up (pm_up (pm_up (pm_up (pm_up (pm_up W 101 ((5 * u35) : Int).toNat a1) 101 (((5 * u35) + 1) : Int).toNat a2) 101 (((5 * u35) + 2) : Int).toNat a3) 101 (((5 * u35) + 3) : Int).toNat (a4 % 100)) 101 (((5 * u35) + 4) : Int).toNat (a4 / 100)) 90 25 (u35 + 1)) 90 25 = y := ⟨_, rfl⟩
                    replace f := f.trans (pf_let_eq hu38)
                    have hu38' : (u35 + 1) = u37 := hu38
                    exfalso; omega
                  · replace f := f.trans (if_neg c31)
                    exact ⟨(-1), V, W, e, f, hq0⟩
          · replace f := f.trans (pf_call_eq ((nf_isTrialR (V := W) a1 a2 a3).2 c26))
            replace f := f.trans (if_pos (by decide))
            exact ⟨(-1), V, W, e, f, hq0⟩
        · replace e := e.trans (if_neg c21)
          by_cases c39 : 0 ≤ (a4 % 100) ∧ (a4 % 100) < W 90 16
          · replace e := e.trans (pf_call_eq ((nf_isSound (V := V) hs (a4 % 100)).1 c39))
            replace e := e.trans (if_neg (by decide))
            obtain ⟨u41, hu42⟩ : ∃ y, V 4 6 = y := ⟨_, rfl⟩
            replace e := e.trans (pf_let_eq hu42)
            by_cases c43 : u41 < 60
            · replace e := e.trans (if_pos c43)
              by_cases c44 : a4 < 100
              · replace e := e.trans (if_pos c44)
                have q45 := F_X7_addAnswer_eq a1 a2 a3 (a4 % 100) 0 V
                obtain ⟨u46, hu47⟩ : ∃ y, V 4 6 = y := ⟨_, rfl⟩
                replace q45 := q45.trans (pf_let_eq hu47)
                by_cases c48 : 60 ≤ u46
                · replace q45 := q45.trans (if_pos c48)
                  replace e := e.trans (pf_call_eq q45)
                  obtain ⟨u49, hu50⟩ : ∃ y, V 4 6 = y := ⟨_, rfl⟩
                  replace e := e.trans (pf_let_eq hu50)
                  have f := F_X12_answer_eq a1 a2 a3 a4 W
                  obtain ⟨u51, hu52⟩ : ∃ y, W 90 16 = y := ⟨_, rfl⟩
                  replace f := f.trans (pf_let_eq hu52)
                  obtain ⟨u53, hu54⟩ : ∃ y, W 90 25 = y := ⟨_, rfl⟩
                  replace f := f.trans (pf_let_eq hu54)
                  by_cases c55 : 0 ≤ a1 ∧ a1 / 100 < W 90 23 ∧ a1 / 10 % 10 < W 90 16 ∧ a1 % 10 < W 90 16 ∧ 0 ≤ a2 ∧ a2 ≤ 99 ∧ -99 ≤ a3 ∧ a3 ≤ 99
                  · replace f := f.trans (pf_call_eq ((nf_isTrialR (V := W) a1 a2 a3).1 c55))
                    replace f := f.trans (if_neg (by decide))
                    by_cases c57 : a4 < 0
                    · replace f := f.trans (if_pos c57)
                      first | (exfalso; omega) | exact ⟨_, V, W, e, f.trans (congrArg (fun z => (z, W)) (show (-1) = u49 by omega)), hq0⟩
                    · replace f := f.trans (if_neg c57)
                      by_cases c58 : 1 < (a4 / 100)
                      · replace f := f.trans (if_pos c58)
                        first | (exfalso; omega) | exact ⟨_, V, W, e, f.trans (congrArg (fun z => (z, W)) (show (-1) = u49 by omega)), hq0⟩
                      · replace f := f.trans (if_neg c58)
                        by_cases c59 : u51 ≤ (a4 % 100)
                        · replace f := f.trans (if_pos c59)
                          first | (exfalso; omega) | exact ⟨_, V, W, e, f.trans (congrArg (fun z => (z, W)) (show (-1) = u49 by omega)), hq0⟩
                        · replace f := f.trans (if_neg c59)
                          by_cases c60 : ¬ (u53 = 60)
                          · replace f := f.trans (if_pos c60)
                            have q61 := F_X12_keepsAnswer_eq a1 a2 a3 (a4 % 100) (a4 / 100) W
                            obtain ⟨u62, hu63⟩ : ∃ y, W 90 16 = y := ⟨_, rfl⟩
                            replace q61 := q61.trans (pf_let_eq hu63)
                            obtain ⟨u64, hu65⟩ : ∃ y, W 90 25 = y := ⟨_, rfl⟩
                            replace q61 := q61.trans (pf_let_eq hu65)
                            replace f := f.trans (pf_call_eq q61)
                            obtain ⟨u66, hu67⟩ : ∃ y, (pm_up (pm_up (pm_up (pm_up (pm_up (pm_up W 101 ((5 * u64) : Int).toNat a1) 101 (((5 * u64) + 1) : Int).toNat a2) 101 (((5 * u64) + 2) : Int).toNat a3) 101 (((5 * u64) + 3) : Int).toNat (a4 % 100)) 101 (((5 * u64) + 4) : Int).toNat (a4 / 100)) 90 25 (u64 + 1)) 90 25 = y := ⟨_, rfl⟩
                            replace f := f.trans (pf_let_eq hu67)
                            have hu67' : (u64 + 1) = u66 := hu67
                            exfalso; omega
                          · replace f := f.trans (if_neg c60)
                            first | (exfalso; omega) | exact ⟨_, V, W, e, f.trans (congrArg (fun z => (z, W)) (show (-1) = u49 by omega)), hq0⟩
                  · replace f := f.trans (pf_call_eq ((nf_isTrialR (V := W) a1 a2 a3).2 c55))
                    replace f := f.trans (if_pos (by decide))
                    first | (exfalso; omega) | exact ⟨_, V, W, e, f.trans (congrArg (fun z => (z, W)) (show (-1) = u49 by omega)), hq0⟩
                · replace q45 := q45.trans (if_neg c48)
                  replace e := e.trans (pf_call_eq q45)
                  obtain ⟨u68, hu69⟩ : ∃ y, (pm_up (pm_up (pm_up (pm_up (pm_up (pm_up V 9 (u46 : Int).toNat a1) 10 (u46 : Int).toNat a2) 11 (u46 : Int).toNat a3) 12 (u46 : Int).toNat (a4 % 100)) 13 (u46 : Int).toNat 0) 4 6 (u46 + 1)) 4 6 = y := ⟨_, rfl⟩
                  replace e := e.trans (pf_let_eq hu69)
                  have hu69' : (u46 + 1) = u68 := hu69
                  have f := F_X12_answer_eq a1 a2 a3 a4 W
                  obtain ⟨u70, hu71⟩ : ∃ y, W 90 16 = y := ⟨_, rfl⟩
                  replace f := f.trans (pf_let_eq hu71)
                  obtain ⟨u72, hu73⟩ : ∃ y, W 90 25 = y := ⟨_, rfl⟩
                  replace f := f.trans (pf_let_eq hu73)
                  by_cases c74 : 0 ≤ a1 ∧ a1 / 100 < W 90 23 ∧ a1 / 10 % 10 < W 90 16 ∧ a1 % 10 < W 90 16 ∧ 0 ≤ a2 ∧ a2 ≤ 99 ∧ -99 ≤ a3 ∧ a3 ≤ 99
                  · replace f := f.trans (pf_call_eq ((nf_isTrialR (V := W) a1 a2 a3).1 c74))
                    replace f := f.trans (if_neg (by decide))
                    by_cases c76 : a4 < 0
                    · replace f := f.trans (if_pos c76)
                      exfalso; omega
                    · replace f := f.trans (if_neg c76)
                      by_cases c77 : 1 < (a4 / 100)
                      · replace f := f.trans (if_pos c77)
                        exfalso; omega
                      · replace f := f.trans (if_neg c77)
                        by_cases c78 : u70 ≤ (a4 % 100)
                        · replace f := f.trans (if_pos c78)
                          exfalso; omega
                        · replace f := f.trans (if_neg c78)
                          by_cases c79 : ¬ (u72 = 60)
                          · replace f := f.trans (if_pos c79)
                            have q80 := F_X12_keepsAnswer_eq a1 a2 a3 (a4 % 100) (a4 / 100) W
                            obtain ⟨u81, hu82⟩ : ∃ y, W 90 16 = y := ⟨_, rfl⟩
                            replace q80 := q80.trans (pf_let_eq hu82)
                            obtain ⟨u83, hu84⟩ : ∃ y, W 90 25 = y := ⟨_, rfl⟩
                            replace q80 := q80.trans (pf_let_eq hu84)
                            replace f := f.trans (pf_call_eq q80)
                            obtain ⟨u85, hu86⟩ : ∃ y, (pm_up (pm_up (pm_up (pm_up (pm_up (pm_up W 101 ((5 * u83) : Int).toNat a1) 101 (((5 * u83) + 1) : Int).toNat a2) 101 (((5 * u83) + 2) : Int).toNat a3) 101 (((5 * u83) + 3) : Int).toNat (a4 % 100)) 101 (((5 * u83) + 4) : Int).toNat (a4 / 100)) 90 25 (u83 + 1)) 90 25 = y := ⟨_, rfl⟩
                            replace f := f.trans (pf_let_eq hu86)
                            have hu86' : (u83 + 1) = u85 := hu86
                            first | (exfalso; omega) | exact ⟨_, _, _, e, f.trans (congrArg (fun z => (z, (pm_up (pm_up (pm_up (pm_up (pm_up (pm_up W 101 ((5 * u83) : Int).toNat a1) 101 (((5 * u83) + 1) : Int).toNat a2) 101 (((5 * u83) + 2) : Int).toNat a3) 101 (((5 * u83) + 3) : Int).toNat (a4 % 100)) 101 (((5 * u83) + 4) : Int).toNat (a4 / 100)) 90 25 (u83 + 1)))) (show u85 = u68 by omega)), (hq0.cnt (fun k i q q4 => by unfold sq_nd at q; rw [pm_up_c (by omega), pm_up_c (by omega), pm_up_c (by omega), pm_up_c (by omega), pm_up_c (by omega), pm_up_c (by omega)]) (show V 4 1 = W 90 23 by omega) (show (u46 + 1) = (u83 + 1) by omega) (fun i q => by rcases (show i = 16 ∨ i = 19 ∨ i = 20 ∨ i = 21 ∨ i = 35 by (simp only [List.contains_eq_mem, List.mem_cons, List.not_mem_nil, or_false, decide_eq_true_eq] at q; exact q)) with rfl | rfl | rfl | rfl | rfl <;> rfl) (fun k q => by rcases (show k = 97 ∨ k = 98 ∨ k = 99 ∨ k = 102 ∨ k = 103 ∨ k = 105 by (simp only [List.contains_eq_mem, List.mem_cons, List.not_mem_nil, or_false, decide_eq_true_eq] at q; exact q)) with rfl | rfl | rfl | rfl | rfl | rfl <;> rfl))⟩
                          · replace f := f.trans (if_neg c79)
                            exfalso; omega
                  · replace f := f.trans (pf_call_eq ((nf_isTrialR (V := W) a1 a2 a3).2 c74))
                    replace f := f.trans (if_pos (by decide))
                    exfalso; omega
              · replace e := e.trans (if_neg c44)
                have q87 := F_X7_addAnswer_eq a1 a2 a3 (a4 % 100) 1 V
                obtain ⟨u88, hu89⟩ : ∃ y, V 4 6 = y := ⟨_, rfl⟩
                replace q87 := q87.trans (pf_let_eq hu89)
                by_cases c90 : 60 ≤ u88
                · replace q87 := q87.trans (if_pos c90)
                  replace e := e.trans (pf_call_eq q87)
                  obtain ⟨u91, hu92⟩ : ∃ y, V 4 6 = y := ⟨_, rfl⟩
                  replace e := e.trans (pf_let_eq hu92)
                  have f := F_X12_answer_eq a1 a2 a3 a4 W
                  obtain ⟨u93, hu94⟩ : ∃ y, W 90 16 = y := ⟨_, rfl⟩
                  replace f := f.trans (pf_let_eq hu94)
                  obtain ⟨u95, hu96⟩ : ∃ y, W 90 25 = y := ⟨_, rfl⟩
                  replace f := f.trans (pf_let_eq hu96)
                  by_cases c97 : 0 ≤ a1 ∧ a1 / 100 < W 90 23 ∧ a1 / 10 % 10 < W 90 16 ∧ a1 % 10 < W 90 16 ∧ 0 ≤ a2 ∧ a2 ≤ 99 ∧ -99 ≤ a3 ∧ a3 ≤ 99
                  · replace f := f.trans (pf_call_eq ((nf_isTrialR (V := W) a1 a2 a3).1 c97))
                    replace f := f.trans (if_neg (by decide))
                    by_cases c99 : a4 < 0
                    · replace f := f.trans (if_pos c99)
                      first | (exfalso; omega) | exact ⟨_, V, W, e, f.trans (congrArg (fun z => (z, W)) (show (-1) = u91 by omega)), hq0⟩
                    · replace f := f.trans (if_neg c99)
                      by_cases c100 : 1 < (a4 / 100)
                      · replace f := f.trans (if_pos c100)
                        first | (exfalso; omega) | exact ⟨_, V, W, e, f.trans (congrArg (fun z => (z, W)) (show (-1) = u91 by omega)), hq0⟩
                      · replace f := f.trans (if_neg c100)
                        by_cases c101 : u93 ≤ (a4 % 100)
                        · replace f := f.trans (if_pos c101)
                          first | (exfalso; omega) | exact ⟨_, V, W, e, f.trans (congrArg (fun z => (z, W)) (show (-1) = u91 by omega)), hq0⟩
                        · replace f := f.trans (if_neg c101)
                          by_cases c102 : ¬ (u95 = 60)
                          · replace f := f.trans (if_pos c102)
                            have q103 := F_X12_keepsAnswer_eq a1 a2 a3 (a4 % 100) (a4 / 100) W
                            obtain ⟨u104, hu105⟩ : ∃ y, W 90 16 = y := ⟨_, rfl⟩
                            replace q103 := q103.trans (pf_let_eq hu105)
                            obtain ⟨u106, hu107⟩ : ∃ y, W 90 25 = y := ⟨_, rfl⟩
                            replace q103 := q103.trans (pf_let_eq hu107)
                            replace f := f.trans (pf_call_eq q103)
                            obtain ⟨u108, hu109⟩ : ∃ y, (pm_up (pm_up (pm_up (pm_up (pm_up (pm_up W 101 ((5 * u106) : Int).toNat a1) 101 (((5 * u106) + 1) : Int).toNat a2) 101 (((5 * u106) + 2) : Int).toNat a3) 101 (((5 * u106) + 3) : Int).toNat (a4 % 100)) 101 (((5 * u106) + 4) : Int).toNat (a4 / 100)) 90 25 (u106 + 1)) 90 25 = y := ⟨_, rfl⟩
                            replace f := f.trans (pf_let_eq hu109)
                            have hu109' : (u106 + 1) = u108 := hu109
                            exfalso; omega
                          · replace f := f.trans (if_neg c102)
                            first | (exfalso; omega) | exact ⟨_, V, W, e, f.trans (congrArg (fun z => (z, W)) (show (-1) = u91 by omega)), hq0⟩
                  · replace f := f.trans (pf_call_eq ((nf_isTrialR (V := W) a1 a2 a3).2 c97))
                    replace f := f.trans (if_pos (by decide))
                    first | (exfalso; omega) | exact ⟨_, V, W, e, f.trans (congrArg (fun z => (z, W)) (show (-1) = u91 by omega)), hq0⟩
                · replace q87 := q87.trans (if_neg c90)
                  replace e := e.trans (pf_call_eq q87)
                  obtain ⟨u110, hu111⟩ : ∃ y, (pm_up (pm_up (pm_up (pm_up (pm_up (pm_up V 9 (u88 : Int).toNat a1) 10 (u88 : Int).toNat a2) 11 (u88 : Int).toNat a3) 12 (u88 : Int).toNat (a4 % 100)) 13 (u88 : Int).toNat 1) 4 6 (u88 + 1)) 4 6 = y := ⟨_, rfl⟩
                  replace e := e.trans (pf_let_eq hu111)
                  have hu111' : (u88 + 1) = u110 := hu111
                  have f := F_X12_answer_eq a1 a2 a3 a4 W
                  obtain ⟨u112, hu113⟩ : ∃ y, W 90 16 = y := ⟨_, rfl⟩
                  replace f := f.trans (pf_let_eq hu113)
                  obtain ⟨u114, hu115⟩ : ∃ y, W 90 25 = y := ⟨_, rfl⟩
                  replace f := f.trans (pf_let_eq hu115)
                  by_cases c116 : 0 ≤ a1 ∧ a1 / 100 < W 90 23 ∧ a1 / 10 % 10 < W 90 16 ∧ a1 % 10 < W 90 16 ∧ 0 ≤ a2 ∧ a2 ≤ 99 ∧ -99 ≤ a3 ∧ a3 ≤ 99
                  · replace f := f.trans (pf_call_eq ((nf_isTrialR (V := W) a1 a2 a3).1 c116))
                    replace f := f.trans (if_neg (by decide))
                    by_cases c118 : a4 < 0
                    · replace f := f.trans (if_pos c118)
                      exfalso; omega
                    · replace f := f.trans (if_neg c118)
                      by_cases c119 : 1 < (a4 / 100)
                      · replace f := f.trans (if_pos c119)
                        exfalso; omega
                      · replace f := f.trans (if_neg c119)
                        by_cases c120 : u112 ≤ (a4 % 100)
                        · replace f := f.trans (if_pos c120)
                          exfalso; omega
                        · replace f := f.trans (if_neg c120)
                          by_cases c121 : ¬ (u114 = 60)
                          · replace f := f.trans (if_pos c121)
                            have q122 := F_X12_keepsAnswer_eq a1 a2 a3 (a4 % 100) (a4 / 100) W
                            obtain ⟨u123, hu124⟩ : ∃ y, W 90 16 = y := ⟨_, rfl⟩
                            replace q122 := q122.trans (pf_let_eq hu124)
                            obtain ⟨u125, hu126⟩ : ∃ y, W 90 25 = y := ⟨_, rfl⟩
                            replace q122 := q122.trans (pf_let_eq hu126)
                            replace f := f.trans (pf_call_eq q122)
                            obtain ⟨u127, hu128⟩ : ∃ y, (pm_up (pm_up (pm_up (pm_up (pm_up (pm_up W 101 ((5 * u125) : Int).toNat a1) 101 (((5 * u125) + 1) : Int).toNat a2) 101 (((5 * u125) + 2) : Int).toNat a3) 101 (((5 * u125) + 3) : Int).toNat (a4 % 100)) 101 (((5 * u125) + 4) : Int).toNat (a4 / 100)) 90 25 (u125 + 1)) 90 25 = y := ⟨_, rfl⟩
                            replace f := f.trans (pf_let_eq hu128)
                            have hu128' : (u125 + 1) = u127 := hu128
                            first | (exfalso; omega) | exact ⟨_, _, _, e, f.trans (congrArg (fun z => (z, (pm_up (pm_up (pm_up (pm_up (pm_up (pm_up W 101 ((5 * u125) : Int).toNat a1) 101 (((5 * u125) + 1) : Int).toNat a2) 101 (((5 * u125) + 2) : Int).toNat a3) 101 (((5 * u125) + 3) : Int).toNat (a4 % 100)) 101 (((5 * u125) + 4) : Int).toNat (a4 / 100)) 90 25 (u125 + 1)))) (show u127 = u110 by omega)), (hq0.cnt (fun k i q q4 => by unfold sq_nd at q; rw [pm_up_c (by omega), pm_up_c (by omega), pm_up_c (by omega), pm_up_c (by omega), pm_up_c (by omega), pm_up_c (by omega)]) (show V 4 1 = W 90 23 by omega) (show (u88 + 1) = (u125 + 1) by omega) (fun i q => by rcases (show i = 16 ∨ i = 19 ∨ i = 20 ∨ i = 21 ∨ i = 35 by (simp only [List.contains_eq_mem, List.mem_cons, List.not_mem_nil, or_false, decide_eq_true_eq] at q; exact q)) with rfl | rfl | rfl | rfl | rfl <;> rfl) (fun k q => by rcases (show k = 97 ∨ k = 98 ∨ k = 99 ∨ k = 102 ∨ k = 103 ∨ k = 105 by (simp only [List.contains_eq_mem, List.mem_cons, List.not_mem_nil, or_false, decide_eq_true_eq] at q; exact q)) with rfl | rfl | rfl | rfl | rfl | rfl <;> rfl))⟩
                          · replace f := f.trans (if_neg c121)
                            exfalso; omega
                  · replace f := f.trans (pf_call_eq ((nf_isTrialR (V := W) a1 a2 a3).2 c116))
                    replace f := f.trans (if_pos (by decide))
                    exfalso; omega
            · replace e := e.trans (if_neg c43)
              have f := F_X12_answer_eq a1 a2 a3 a4 W
              obtain ⟨u129, hu130⟩ : ∃ y, W 90 16 = y := ⟨_, rfl⟩
              replace f := f.trans (pf_let_eq hu130)
              obtain ⟨u131, hu132⟩ : ∃ y, W 90 25 = y := ⟨_, rfl⟩
              replace f := f.trans (pf_let_eq hu132)
              by_cases c133 : 0 ≤ a1 ∧ a1 / 100 < W 90 23 ∧ a1 / 10 % 10 < W 90 16 ∧ a1 % 10 < W 90 16 ∧ 0 ≤ a2 ∧ a2 ≤ 99 ∧ -99 ≤ a3 ∧ a3 ≤ 99
              · replace f := f.trans (pf_call_eq ((nf_isTrialR (V := W) a1 a2 a3).1 c133))
                replace f := f.trans (if_neg (by decide))
                by_cases c135 : a4 < 0
                · replace f := f.trans (if_pos c135)
                  exact ⟨(-1), V, W, e, f, hq0⟩
                · replace f := f.trans (if_neg c135)
                  by_cases c136 : 1 < (a4 / 100)
                  · replace f := f.trans (if_pos c136)
                    exact ⟨(-1), V, W, e, f, hq0⟩
                  · replace f := f.trans (if_neg c136)
                    by_cases c137 : u129 ≤ (a4 % 100)
                    · replace f := f.trans (if_pos c137)
                      exact ⟨(-1), V, W, e, f, hq0⟩
                    · replace f := f.trans (if_neg c137)
                      by_cases c138 : ¬ (u131 = 60)
                      · replace f := f.trans (if_pos c138)
                        have q139 := F_X12_keepsAnswer_eq a1 a2 a3 (a4 % 100) (a4 / 100) W
                        obtain ⟨u140, hu141⟩ : ∃ y, W 90 16 = y := ⟨_, rfl⟩
                        replace q139 := q139.trans (pf_let_eq hu141)
                        obtain ⟨u142, hu143⟩ : ∃ y, W 90 25 = y := ⟨_, rfl⟩
                        replace q139 := q139.trans (pf_let_eq hu143)
                        replace f := f.trans (pf_call_eq q139)
                        obtain ⟨u144, hu145⟩ : ∃ y, (pm_up (pm_up (pm_up (pm_up (pm_up (pm_up W 101 ((5 * u142) : Int).toNat a1) 101 (((5 * u142) + 1) : Int).toNat a2) 101 (((5 * u142) + 2) : Int).toNat a3) 101 (((5 * u142) + 3) : Int).toNat (a4 % 100)) 101 (((5 * u142) + 4) : Int).toNat (a4 / 100)) 90 25 (u142 + 1)) 90 25 = y := ⟨_, rfl⟩
                        replace f := f.trans (pf_let_eq hu145)
                        have hu145' : (u142 + 1) = u144 := hu145
                        exfalso; omega
                      · replace f := f.trans (if_neg c138)
                        exact ⟨(-1), V, W, e, f, hq0⟩
              · replace f := f.trans (pf_call_eq ((nf_isTrialR (V := W) a1 a2 a3).2 c133))
                replace f := f.trans (if_pos (by decide))
                exact ⟨(-1), V, W, e, f, hq0⟩
          · replace e := e.trans (pf_call_eq ((nf_isSound (V := V) hs (a4 % 100)).2 c39))
            replace e := e.trans (if_pos (by decide))
            have f := F_X12_answer_eq a1 a2 a3 a4 W
            obtain ⟨u146, hu147⟩ : ∃ y, W 90 16 = y := ⟨_, rfl⟩
            replace f := f.trans (pf_let_eq hu147)
            obtain ⟨u148, hu149⟩ : ∃ y, W 90 25 = y := ⟨_, rfl⟩
            replace f := f.trans (pf_let_eq hu149)
            by_cases c150 : 0 ≤ a1 ∧ a1 / 100 < W 90 23 ∧ a1 / 10 % 10 < W 90 16 ∧ a1 % 10 < W 90 16 ∧ 0 ≤ a2 ∧ a2 ≤ 99 ∧ -99 ≤ a3 ∧ a3 ≤ 99
            · replace f := f.trans (pf_call_eq ((nf_isTrialR (V := W) a1 a2 a3).1 c150))
              replace f := f.trans (if_neg (by decide))
              by_cases c152 : a4 < 0
              · replace f := f.trans (if_pos c152)
                exact ⟨(-1), V, W, e, f, hq0⟩
              · replace f := f.trans (if_neg c152)
                by_cases c153 : 1 < (a4 / 100)
                · replace f := f.trans (if_pos c153)
                  exact ⟨(-1), V, W, e, f, hq0⟩
                · replace f := f.trans (if_neg c153)
                  by_cases c154 : u146 ≤ (a4 % 100)
                  · replace f := f.trans (if_pos c154)
                    exact ⟨(-1), V, W, e, f, hq0⟩
                  · replace f := f.trans (if_neg c154)
                    by_cases c155 : ¬ (u148 = 60)
                    · replace f := f.trans (if_pos c155)
                      have q156 := F_X12_keepsAnswer_eq a1 a2 a3 (a4 % 100) (a4 / 100) W
                      obtain ⟨u157, hu158⟩ : ∃ y, W 90 16 = y := ⟨_, rfl⟩
                      replace q156 := q156.trans (pf_let_eq hu158)
                      obtain ⟨u159, hu160⟩ : ∃ y, W 90 25 = y := ⟨_, rfl⟩
                      replace q156 := q156.trans (pf_let_eq hu160)
                      replace f := f.trans (pf_call_eq q156)
                      obtain ⟨u161, hu162⟩ : ∃ y, (pm_up (pm_up (pm_up (pm_up (pm_up (pm_up W 101 ((5 * u159) : Int).toNat a1) 101 (((5 * u159) + 1) : Int).toNat a2) 101 (((5 * u159) + 2) : Int).toNat a3) 101 (((5 * u159) + 3) : Int).toNat (a4 % 100)) 101 (((5 * u159) + 4) : Int).toNat (a4 / 100)) 90 25 (u159 + 1)) 90 25 = y := ⟨_, rfl⟩
                      replace f := f.trans (pf_let_eq hu162)
                      have hu162' : (u159 + 1) = u161 := hu162
                      exfalso; omega
                    · replace f := f.trans (if_neg c155)
                      exact ⟨(-1), V, W, e, f, hq0⟩
            · replace f := f.trans (pf_call_eq ((nf_isTrialR (V := W) a1 a2 a3).2 c150))
              replace f := f.trans (if_pos (by decide))
              exact ⟨(-1), V, W, e, f, hq0⟩
    · replace e := e.trans (pf_call_eq ((nf_isTrial (V := V) hs a1 a2 a3).2 c1))
      replace e := e.trans (if_pos (by decide))
      have f := F_X12_answer_eq a1 a2 a3 a4 W
      obtain ⟨u163, hu164⟩ : ∃ y, W 90 16 = y := ⟨_, rfl⟩
      replace f := f.trans (pf_let_eq hu164)
      obtain ⟨u165, hu166⟩ : ∃ y, W 90 25 = y := ⟨_, rfl⟩
      replace f := f.trans (pf_let_eq hu166)
      by_cases c167 : 0 ≤ a1 ∧ a1 / 100 < W 90 23 ∧ a1 / 10 % 10 < W 90 16 ∧ a1 % 10 < W 90 16 ∧ 0 ≤ a2 ∧ a2 ≤ 99 ∧ -99 ≤ a3 ∧ a3 ≤ 99
      · replace f := f.trans (pf_call_eq ((nf_isTrialR (V := W) a1 a2 a3).1 c167))
        replace f := f.trans (if_neg (by decide))
        by_cases c169 : a4 < 0
        · replace f := f.trans (if_pos c169)
          exact ⟨(-1), V, W, e, f, hq0⟩
        · replace f := f.trans (if_neg c169)
          by_cases c170 : 1 < (a4 / 100)
          · replace f := f.trans (if_pos c170)
            exact ⟨(-1), V, W, e, f, hq0⟩
          · replace f := f.trans (if_neg c170)
            by_cases c171 : u163 ≤ (a4 % 100)
            · replace f := f.trans (if_pos c171)
              exact ⟨(-1), V, W, e, f, hq0⟩
            · replace f := f.trans (if_neg c171)
              by_cases c172 : ¬ (u165 = 60)
              · replace f := f.trans (if_pos c172)
                have q173 := F_X12_keepsAnswer_eq a1 a2 a3 (a4 % 100) (a4 / 100) W
                obtain ⟨u174, hu175⟩ : ∃ y, W 90 16 = y := ⟨_, rfl⟩
                replace q173 := q173.trans (pf_let_eq hu175)
                obtain ⟨u176, hu177⟩ : ∃ y, W 90 25 = y := ⟨_, rfl⟩
                replace q173 := q173.trans (pf_let_eq hu177)
                replace f := f.trans (pf_call_eq q173)
                obtain ⟨u178, hu179⟩ : ∃ y, (pm_up (pm_up (pm_up (pm_up (pm_up (pm_up W 101 ((5 * u176) : Int).toNat a1) 101 (((5 * u176) + 1) : Int).toNat a2) 101 (((5 * u176) + 2) : Int).toNat a3) 101 (((5 * u176) + 3) : Int).toNat (a4 % 100)) 101 (((5 * u176) + 4) : Int).toNat (a4 / 100)) 90 25 (u176 + 1)) 90 25 = y := ⟨_, rfl⟩
                replace f := f.trans (pf_let_eq hu179)
                have hu179' : (u176 + 1) = u178 := hu179
                exfalso; omega
              · replace f := f.trans (if_neg c172)
                exact ⟨(-1), V, W, e, f, hq0⟩
      · replace f := f.trans (pf_call_eq ((nf_isTrialR (V := W) a1 a2 a3).2 c167))
        replace f := f.trans (if_pos (by decide))
        exact ⟨(-1), V, W, e, f, hq0⟩
  · skip
    rw [show (V 0 8).toNat = 51 by omega] at h3
    obtain ⟨s0, s10, sj, s4, -⟩ := h3
    have e := F_X11_answer_eq a1 a2 a3 a4 V
    by_cases c1 : 0 ≤ a1 ∧ a1 / 100 < V 4 1 ∧ a1 / 10 % 10 < W 90 16 ∧ a1 % 10 < W 90 16 ∧ 0 ≤ a2 ∧ a2 ≤ 99 ∧ -99 ≤ a3 ∧ a3 ≤ 99
    · replace e := e.trans (pf_call_eq ((nf_isTrial (V := V) hs a1 a2 a3).1 c1))
      replace e := e.trans (if_neg (by decide))
      by_cases c3 : a4 < 0
      · replace e := e.trans (if_pos c3)
        have f := F_X12_answer_eq a1 a2 a3 a4 W
        obtain ⟨u4, hu5⟩ : ∃ y, W 90 16 = y := ⟨_, rfl⟩
        replace f := f.trans (pf_let_eq hu5)
        obtain ⟨u6, hu7⟩ : ∃ y, W 90 25 = y := ⟨_, rfl⟩
        replace f := f.trans (pf_let_eq hu7)
        by_cases c8 : 0 ≤ a1 ∧ a1 / 100 < W 90 23 ∧ a1 / 10 % 10 < W 90 16 ∧ a1 % 10 < W 90 16 ∧ 0 ≤ a2 ∧ a2 ≤ 99 ∧ -99 ≤ a3 ∧ a3 ≤ 99
        · replace f := f.trans (pf_call_eq ((nf_isTrialR (V := W) a1 a2 a3).1 c8))
          replace f := f.trans (if_neg (by decide))
          by_cases c10 : a4 < 0
          · replace f := f.trans (if_pos c10)
            exact ⟨(-1), V, W, e, f, hq0⟩
          · replace f := f.trans (if_neg c10)
            by_cases c11 : 1 < (a4 / 100)
            · replace f := f.trans (if_pos c11)
              exact ⟨(-1), V, W, e, f, hq0⟩
            · replace f := f.trans (if_neg c11)
              by_cases c12 : u4 ≤ (a4 % 100)
              · replace f := f.trans (if_pos c12)
                exact ⟨(-1), V, W, e, f, hq0⟩
              · replace f := f.trans (if_neg c12)
                by_cases c13 : ¬ (u6 = 60)
                · replace f := f.trans (if_pos c13)
                  have q14 := F_X12_keepsAnswer_eq a1 a2 a3 (a4 % 100) (a4 / 100) W
                  obtain ⟨u15, hu16⟩ : ∃ y, W 90 16 = y := ⟨_, rfl⟩
                  replace q14 := q14.trans (pf_let_eq hu16)
                  obtain ⟨u17, hu18⟩ : ∃ y, W 90 25 = y := ⟨_, rfl⟩
                  replace q14 := q14.trans (pf_let_eq hu18)
                  replace f := f.trans (pf_call_eq q14)
                  obtain ⟨u19, hu20⟩ : ∃ y, (pm_up (pm_up (pm_up (pm_up (pm_up (pm_up W 101 ((5 * u17) : Int).toNat a1) 101 (((5 * u17) + 1) : Int).toNat a2) 101 (((5 * u17) + 2) : Int).toNat a3) 101 (((5 * u17) + 3) : Int).toNat (a4 % 100)) 101 (((5 * u17) + 4) : Int).toNat (a4 / 100)) 90 25 (u17 + 1)) 90 25 = y := ⟨_, rfl⟩
                  replace f := f.trans (pf_let_eq hu20)
                  have hu20' : (u17 + 1) = u19 := hu20
                  exfalso; omega
                · replace f := f.trans (if_neg c13)
                  exact ⟨(-1), V, W, e, f, hq0⟩
        · replace f := f.trans (pf_call_eq ((nf_isTrialR (V := W) a1 a2 a3).2 c8))
          replace f := f.trans (if_pos (by decide))
          exact ⟨(-1), V, W, e, f, hq0⟩
      · replace e := e.trans (if_neg c3)
        by_cases c21 : 1 < (a4 / 100)
        · replace e := e.trans (if_pos c21)
          have f := F_X12_answer_eq a1 a2 a3 a4 W
          obtain ⟨u22, hu23⟩ : ∃ y, W 90 16 = y := ⟨_, rfl⟩
          replace f := f.trans (pf_let_eq hu23)
          obtain ⟨u24, hu25⟩ : ∃ y, W 90 25 = y := ⟨_, rfl⟩
          replace f := f.trans (pf_let_eq hu25)
          by_cases c26 : 0 ≤ a1 ∧ a1 / 100 < W 90 23 ∧ a1 / 10 % 10 < W 90 16 ∧ a1 % 10 < W 90 16 ∧ 0 ≤ a2 ∧ a2 ≤ 99 ∧ -99 ≤ a3 ∧ a3 ≤ 99
          · replace f := f.trans (pf_call_eq ((nf_isTrialR (V := W) a1 a2 a3).1 c26))
            replace f := f.trans (if_neg (by decide))
            by_cases c28 : a4 < 0
            · replace f := f.trans (if_pos c28)
              exact ⟨(-1), V, W, e, f, hq0⟩
            · replace f := f.trans (if_neg c28)
              by_cases c29 : 1 < (a4 / 100)
              · replace f := f.trans (if_pos c29)
                exact ⟨(-1), V, W, e, f, hq0⟩
              · replace f := f.trans (if_neg c29)
                by_cases c30 : u22 ≤ (a4 % 100)
                · replace f := f.trans (if_pos c30)
                  exact ⟨(-1), V, W, e, f, hq0⟩
                · replace f := f.trans (if_neg c30)
                  by_cases c31 : ¬ (u24 = 60)
                  · replace f := f.trans (if_pos c31)
                    have q32 := F_X12_keepsAnswer_eq a1 a2 a3 (a4 % 100) (a4 / 100) W
                    obtain ⟨u33, hu34⟩ : ∃ y, W 90 16 = y := ⟨_, rfl⟩
                    replace q32 := q32.trans (pf_let_eq hu34)
                    obtain ⟨u35, hu36⟩ : ∃ y, W 90 25 = y := ⟨_, rfl⟩
                    replace q32 := q32.trans (pf_let_eq hu36)
                    replace f := f.trans (pf_call_eq q32)
                    obtain ⟨u37, hu38⟩ : ∃ y, (pm_up (pm_up (pm_up (pm_up (pm_up (pm_up W 101 ((5 * u35) : Int).toNat a1) 101 (((5 * u35) + 1) : Int).toNat a2) 101 (((5 * u35) + 2) : Int).toNat a3) 101 (((5 * u35) + 3) : Int).toNat (a4 % 100)) 101 (((5 * u35) + 4) : Int).toNat (a4 / 100)) 90 25 (u35 + 1)) 90 25 = y := ⟨_, rfl⟩
                    replace f := f.trans (pf_let_eq hu38)
                    have hu38' : (u35 + 1) = u37 := hu38
                    exfalso; omega
                  · replace f := f.trans (if_neg c31)
                    exact ⟨(-1), V, W, e, f, hq0⟩
          · replace f := f.trans (pf_call_eq ((nf_isTrialR (V := W) a1 a2 a3).2 c26))
            replace f := f.trans (if_pos (by decide))
            exact ⟨(-1), V, W, e, f, hq0⟩
        · replace e := e.trans (if_neg c21)
          by_cases c39 : 0 ≤ (a4 % 100) ∧ (a4 % 100) < W 90 16
          · replace e := e.trans (pf_call_eq ((nf_isSound (V := V) hs (a4 % 100)).1 c39))
            replace e := e.trans (if_neg (by decide))
            obtain ⟨u41, hu42⟩ : ∃ y, V 4 6 = y := ⟨_, rfl⟩
            replace e := e.trans (pf_let_eq hu42)
            by_cases c43 : u41 < 60
            · replace e := e.trans (if_pos c43)
              by_cases c44 : a4 < 100
              · replace e := e.trans (if_pos c44)
                have q45 := F_X7_addAnswer_eq a1 a2 a3 (a4 % 100) 0 V
                obtain ⟨u46, hu47⟩ : ∃ y, V 4 6 = y := ⟨_, rfl⟩
                replace q45 := q45.trans (pf_let_eq hu47)
                by_cases c48 : 60 ≤ u46
                · replace q45 := q45.trans (if_pos c48)
                  replace e := e.trans (pf_call_eq q45)
                  obtain ⟨u49, hu50⟩ : ∃ y, V 4 6 = y := ⟨_, rfl⟩
                  replace e := e.trans (pf_let_eq hu50)
                  have f := F_X12_answer_eq a1 a2 a3 a4 W
                  obtain ⟨u51, hu52⟩ : ∃ y, W 90 16 = y := ⟨_, rfl⟩
                  replace f := f.trans (pf_let_eq hu52)
                  obtain ⟨u53, hu54⟩ : ∃ y, W 90 25 = y := ⟨_, rfl⟩
                  replace f := f.trans (pf_let_eq hu54)
                  by_cases c55 : 0 ≤ a1 ∧ a1 / 100 < W 90 23 ∧ a1 / 10 % 10 < W 90 16 ∧ a1 % 10 < W 90 16 ∧ 0 ≤ a2 ∧ a2 ≤ 99 ∧ -99 ≤ a3 ∧ a3 ≤ 99
                  · replace f := f.trans (pf_call_eq ((nf_isTrialR (V := W) a1 a2 a3).1 c55))
                    replace f := f.trans (if_neg (by decide))
                    by_cases c57 : a4 < 0
                    · replace f := f.trans (if_pos c57)
                      first | (exfalso; omega) | exact ⟨_, V, W, e, f.trans (congrArg (fun z => (z, W)) (show (-1) = u49 by omega)), hq0⟩
                    · replace f := f.trans (if_neg c57)
                      by_cases c58 : 1 < (a4 / 100)
                      · replace f := f.trans (if_pos c58)
                        first | (exfalso; omega) | exact ⟨_, V, W, e, f.trans (congrArg (fun z => (z, W)) (show (-1) = u49 by omega)), hq0⟩
                      · replace f := f.trans (if_neg c58)
                        by_cases c59 : u51 ≤ (a4 % 100)
                        · replace f := f.trans (if_pos c59)
                          first | (exfalso; omega) | exact ⟨_, V, W, e, f.trans (congrArg (fun z => (z, W)) (show (-1) = u49 by omega)), hq0⟩
                        · replace f := f.trans (if_neg c59)
                          by_cases c60 : ¬ (u53 = 60)
                          · replace f := f.trans (if_pos c60)
                            have q61 := F_X12_keepsAnswer_eq a1 a2 a3 (a4 % 100) (a4 / 100) W
                            obtain ⟨u62, hu63⟩ : ∃ y, W 90 16 = y := ⟨_, rfl⟩
                            replace q61 := q61.trans (pf_let_eq hu63)
                            obtain ⟨u64, hu65⟩ : ∃ y, W 90 25 = y := ⟨_, rfl⟩
                            replace q61 := q61.trans (pf_let_eq hu65)
                            replace f := f.trans (pf_call_eq q61)
                            obtain ⟨u66, hu67⟩ : ∃ y, (pm_up (pm_up (pm_up (pm_up (pm_up (pm_up W 101 ((5 * u64) : Int).toNat a1) 101 (((5 * u64) + 1) : Int).toNat a2) 101 (((5 * u64) + 2) : Int).toNat a3) 101 (((5 * u64) + 3) : Int).toNat (a4 % 100)) 101 (((5 * u64) + 4) : Int).toNat (a4 / 100)) 90 25 (u64 + 1)) 90 25 = y := ⟨_, rfl⟩
                            replace f := f.trans (pf_let_eq hu67)
                            have hu67' : (u64 + 1) = u66 := hu67
                            exfalso; omega
                          · replace f := f.trans (if_neg c60)
                            first | (exfalso; omega) | exact ⟨_, V, W, e, f.trans (congrArg (fun z => (z, W)) (show (-1) = u49 by omega)), hq0⟩
                  · replace f := f.trans (pf_call_eq ((nf_isTrialR (V := W) a1 a2 a3).2 c55))
                    replace f := f.trans (if_pos (by decide))
                    first | (exfalso; omega) | exact ⟨_, V, W, e, f.trans (congrArg (fun z => (z, W)) (show (-1) = u49 by omega)), hq0⟩
                · replace q45 := q45.trans (if_neg c48)
                  replace e := e.trans (pf_call_eq q45)
                  obtain ⟨u68, hu69⟩ : ∃ y, (pm_up (pm_up (pm_up (pm_up (pm_up (pm_up V 9 (u46 : Int).toNat a1) 10 (u46 : Int).toNat a2) 11 (u46 : Int).toNat a3) 12 (u46 : Int).toNat (a4 % 100)) 13 (u46 : Int).toNat 0) 4 6 (u46 + 1)) 4 6 = y := ⟨_, rfl⟩
                  replace e := e.trans (pf_let_eq hu69)
                  have hu69' : (u46 + 1) = u68 := hu69
                  have f := F_X12_answer_eq a1 a2 a3 a4 W
                  obtain ⟨u70, hu71⟩ : ∃ y, W 90 16 = y := ⟨_, rfl⟩
                  replace f := f.trans (pf_let_eq hu71)
                  obtain ⟨u72, hu73⟩ : ∃ y, W 90 25 = y := ⟨_, rfl⟩
                  replace f := f.trans (pf_let_eq hu73)
                  by_cases c74 : 0 ≤ a1 ∧ a1 / 100 < W 90 23 ∧ a1 / 10 % 10 < W 90 16 ∧ a1 % 10 < W 90 16 ∧ 0 ≤ a2 ∧ a2 ≤ 99 ∧ -99 ≤ a3 ∧ a3 ≤ 99
                  · replace f := f.trans (pf_call_eq ((nf_isTrialR (V := W) a1 a2 a3).1 c74))
                    replace f := f.trans (if_neg (by decide))
                    by_cases c76 : a4 < 0
                    · replace f := f.trans (if_pos c76)
                      exfalso; omega
                    · replace f := f.trans (if_neg c76)
                      by_cases c77 : 1 < (a4 / 100)
                      · replace f := f.trans (if_pos c77)
                        exfalso; omega
                      · replace f := f.trans (if_neg c77)
                        by_cases c78 : u70 ≤ (a4 % 100)
                        · replace f := f.trans (if_pos c78)
                          exfalso; omega
                        · replace f := f.trans (if_neg c78)
                          by_cases c79 : ¬ (u72 = 60)
                          · replace f := f.trans (if_pos c79)
                            have q80 := F_X12_keepsAnswer_eq a1 a2 a3 (a4 % 100) (a4 / 100) W
                            obtain ⟨u81, hu82⟩ : ∃ y, W 90 16 = y := ⟨_, rfl⟩
                            replace q80 := q80.trans (pf_let_eq hu82)
                            obtain ⟨u83, hu84⟩ : ∃ y, W 90 25 = y := ⟨_, rfl⟩
                            replace q80 := q80.trans (pf_let_eq hu84)
                            replace f := f.trans (pf_call_eq q80)
                            obtain ⟨u85, hu86⟩ : ∃ y, (pm_up (pm_up (pm_up (pm_up (pm_up (pm_up W 101 ((5 * u83) : Int).toNat a1) 101 (((5 * u83) + 1) : Int).toNat a2) 101 (((5 * u83) + 2) : Int).toNat a3) 101 (((5 * u83) + 3) : Int).toNat (a4 % 100)) 101 (((5 * u83) + 4) : Int).toNat (a4 / 100)) 90 25 (u83 + 1)) 90 25 = y := ⟨_, rfl⟩
                            replace f := f.trans (pf_let_eq hu86)
                            have hu86' : (u83 + 1) = u85 := hu86
                            first | (exfalso; omega) | exact ⟨_, _, _, e, f.trans (congrArg (fun z => (z, (pm_up (pm_up (pm_up (pm_up (pm_up (pm_up W 101 ((5 * u83) : Int).toNat a1) 101 (((5 * u83) + 1) : Int).toNat a2) 101 (((5 * u83) + 2) : Int).toNat a3) 101 (((5 * u83) + 3) : Int).toNat (a4 % 100)) 101 (((5 * u83) + 4) : Int).toNat (a4 / 100)) 90 25 (u83 + 1)))) (show u85 = u68 by omega)), (hq0.cnt (fun k i q q4 => by unfold sq_nd at q; rw [pm_up_c (by omega), pm_up_c (by omega), pm_up_c (by omega), pm_up_c (by omega), pm_up_c (by omega), pm_up_c (by omega)]) (show V 4 1 = W 90 23 by omega) (show (u46 + 1) = (u83 + 1) by omega) (fun i q => by rcases (show i = 16 ∨ i = 19 ∨ i = 20 ∨ i = 21 ∨ i = 35 by (simp only [List.contains_eq_mem, List.mem_cons, List.not_mem_nil, or_false, decide_eq_true_eq] at q; exact q)) with rfl | rfl | rfl | rfl | rfl <;> rfl) (fun k q => by rcases (show k = 97 ∨ k = 98 ∨ k = 99 ∨ k = 102 ∨ k = 103 ∨ k = 105 by (simp only [List.contains_eq_mem, List.mem_cons, List.not_mem_nil, or_false, decide_eq_true_eq] at q; exact q)) with rfl | rfl | rfl | rfl | rfl | rfl <;> rfl))⟩
                          · replace f := f.trans (if_neg c79)
                            exfalso; omega
                  · replace f := f.trans (pf_call_eq ((nf_isTrialR (V := W) a1 a2 a3).2 c74))
                    replace f := f.trans (if_pos (by decide))
                    exfalso; omega
              · replace e := e.trans (if_neg c44)
                have q87 := F_X7_addAnswer_eq a1 a2 a3 (a4 % 100) 1 V
                obtain ⟨u88, hu89⟩ : ∃ y, V 4 6 = y := ⟨_, rfl⟩
                replace q87 := q87.trans (pf_let_eq hu89)
                by_cases c90 : 60 ≤ u88
                · replace q87 := q87.trans (if_pos c90)
                  replace e := e.trans (pf_call_eq q87)
                  obtain ⟨u91, hu92⟩ : ∃ y, V 4 6 = y := ⟨_, rfl⟩
                  replace e := e.trans (pf_let_eq hu92)
                  have f := F_X12_answer_eq a1 a2 a3 a4 W
                  obtain ⟨u93, hu94⟩ : ∃ y, W 90 16 = y := ⟨_, rfl⟩
                  replace f := f.trans (pf_let_eq hu94)
                  obtain ⟨u95, hu96⟩ : ∃ y, W 90 25 = y := ⟨_, rfl⟩
                  replace f := f.trans (pf_let_eq hu96)
                  by_cases c97 : 0 ≤ a1 ∧ a1 / 100 < W 90 23 ∧ a1 / 10 % 10 < W 90 16 ∧ a1 % 10 < W 90 16 ∧ 0 ≤ a2 ∧ a2 ≤ 99 ∧ -99 ≤ a3 ∧ a3 ≤ 99
                  · replace f := f.trans (pf_call_eq ((nf_isTrialR (V := W) a1 a2 a3).1 c97))
                    replace f := f.trans (if_neg (by decide))
                    by_cases c99 : a4 < 0
                    · replace f := f.trans (if_pos c99)
                      first | (exfalso; omega) | exact ⟨_, V, W, e, f.trans (congrArg (fun z => (z, W)) (show (-1) = u91 by omega)), hq0⟩
                    · replace f := f.trans (if_neg c99)
                      by_cases c100 : 1 < (a4 / 100)
                      · replace f := f.trans (if_pos c100)
                        first | (exfalso; omega) | exact ⟨_, V, W, e, f.trans (congrArg (fun z => (z, W)) (show (-1) = u91 by omega)), hq0⟩
                      · replace f := f.trans (if_neg c100)
                        by_cases c101 : u93 ≤ (a4 % 100)
                        · replace f := f.trans (if_pos c101)
                          first | (exfalso; omega) | exact ⟨_, V, W, e, f.trans (congrArg (fun z => (z, W)) (show (-1) = u91 by omega)), hq0⟩
                        · replace f := f.trans (if_neg c101)
                          by_cases c102 : ¬ (u95 = 60)
                          · replace f := f.trans (if_pos c102)
                            have q103 := F_X12_keepsAnswer_eq a1 a2 a3 (a4 % 100) (a4 / 100) W
                            obtain ⟨u104, hu105⟩ : ∃ y, W 90 16 = y := ⟨_, rfl⟩
                            replace q103 := q103.trans (pf_let_eq hu105)
                            obtain ⟨u106, hu107⟩ : ∃ y, W 90 25 = y := ⟨_, rfl⟩
                            replace q103 := q103.trans (pf_let_eq hu107)
                            replace f := f.trans (pf_call_eq q103)
                            obtain ⟨u108, hu109⟩ : ∃ y, (pm_up (pm_up (pm_up (pm_up (pm_up (pm_up W 101 ((5 * u106) : Int).toNat a1) 101 (((5 * u106) + 1) : Int).toNat a2) 101 (((5 * u106) + 2) : Int).toNat a3) 101 (((5 * u106) + 3) : Int).toNat (a4 % 100)) 101 (((5 * u106) + 4) : Int).toNat (a4 / 100)) 90 25 (u106 + 1)) 90 25 = y := ⟨_, rfl⟩
                            replace f := f.trans (pf_let_eq hu109)
                            have hu109' : (u106 + 1) = u108 := hu109
                            exfalso; omega
                          · replace f := f.trans (if_neg c102)
                            first | (exfalso; omega) | exact ⟨_, V, W, e, f.trans (congrArg (fun z => (z, W)) (show (-1) = u91 by omega)), hq0⟩
                  · replace f := f.trans (pf_call_eq ((nf_isTrialR (V := W) a1 a2 a3).2 c97))
                    replace f := f.trans (if_pos (by decide))
                    first | (exfalso; omega) | exact ⟨_, V, W, e, f.trans (congrArg (fun z => (z, W)) (show (-1) = u91 by omega)), hq0⟩
                · replace q87 := q87.trans (if_neg c90)
                  replace e := e.trans (pf_call_eq q87)
                  obtain ⟨u110, hu111⟩ : ∃ y, (pm_up (pm_up (pm_up (pm_up (pm_up (pm_up V 9 (u88 : Int).toNat a1) 10 (u88 : Int).toNat a2) 11 (u88 : Int).toNat a3) 12 (u88 : Int).toNat (a4 % 100)) 13 (u88 : Int).toNat 1) 4 6 (u88 + 1)) 4 6 = y := ⟨_, rfl⟩
                  replace e := e.trans (pf_let_eq hu111)
                  have hu111' : (u88 + 1) = u110 := hu111
                  have f := F_X12_answer_eq a1 a2 a3 a4 W
                  obtain ⟨u112, hu113⟩ : ∃ y, W 90 16 = y := ⟨_, rfl⟩
                  replace f := f.trans (pf_let_eq hu113)
                  obtain ⟨u114, hu115⟩ : ∃ y, W 90 25 = y := ⟨_, rfl⟩
                  replace f := f.trans (pf_let_eq hu115)
                  by_cases c116 : 0 ≤ a1 ∧ a1 / 100 < W 90 23 ∧ a1 / 10 % 10 < W 90 16 ∧ a1 % 10 < W 90 16 ∧ 0 ≤ a2 ∧ a2 ≤ 99 ∧ -99 ≤ a3 ∧ a3 ≤ 99
                  · replace f := f.trans (pf_call_eq ((nf_isTrialR (V := W) a1 a2 a3).1 c116))
                    replace f := f.trans (if_neg (by decide))
                    by_cases c118 : a4 < 0
                    · replace f := f.trans (if_pos c118)
                      exfalso; omega
                    · replace f := f.trans (if_neg c118)
                      by_cases c119 : 1 < (a4 / 100)
                      · replace f := f.trans (if_pos c119)
                        exfalso; omega
                      · replace f := f.trans (if_neg c119)
                        by_cases c120 : u112 ≤ (a4 % 100)
                        · replace f := f.trans (if_pos c120)
                          exfalso; omega
                        · replace f := f.trans (if_neg c120)
                          by_cases c121 : ¬ (u114 = 60)
                          · replace f := f.trans (if_pos c121)
                            have q122 := F_X12_keepsAnswer_eq a1 a2 a3 (a4 % 100) (a4 / 100) W
                            obtain ⟨u123, hu124⟩ : ∃ y, W 90 16 = y := ⟨_, rfl⟩
                            replace q122 := q122.trans (pf_let_eq hu124)
                            obtain ⟨u125, hu126⟩ : ∃ y, W 90 25 = y := ⟨_, rfl⟩
                            replace q122 := q122.trans (pf_let_eq hu126)
                            replace f := f.trans (pf_call_eq q122)
                            obtain ⟨u127, hu128⟩ : ∃ y, (pm_up (pm_up (pm_up (pm_up (pm_up (pm_up W 101 ((5 * u125) : Int).toNat a1) 101 (((5 * u125) + 1) : Int).toNat a2) 101 (((5 * u125) + 2) : Int).toNat a3) 101 (((5 * u125) + 3) : Int).toNat (a4 % 100)) 101 (((5 * u125) + 4) : Int).toNat (a4 / 100)) 90 25 (u125 + 1)) 90 25 = y := ⟨_, rfl⟩
                            replace f := f.trans (pf_let_eq hu128)
                            have hu128' : (u125 + 1) = u127 := hu128
                            first | (exfalso; omega) | exact ⟨_, _, _, e, f.trans (congrArg (fun z => (z, (pm_up (pm_up (pm_up (pm_up (pm_up (pm_up W 101 ((5 * u125) : Int).toNat a1) 101 (((5 * u125) + 1) : Int).toNat a2) 101 (((5 * u125) + 2) : Int).toNat a3) 101 (((5 * u125) + 3) : Int).toNat (a4 % 100)) 101 (((5 * u125) + 4) : Int).toNat (a4 / 100)) 90 25 (u125 + 1)))) (show u127 = u110 by omega)), (hq0.cnt (fun k i q q4 => by unfold sq_nd at q; rw [pm_up_c (by omega), pm_up_c (by omega), pm_up_c (by omega), pm_up_c (by omega), pm_up_c (by omega), pm_up_c (by omega)]) (show V 4 1 = W 90 23 by omega) (show (u88 + 1) = (u125 + 1) by omega) (fun i q => by rcases (show i = 16 ∨ i = 19 ∨ i = 20 ∨ i = 21 ∨ i = 35 by (simp only [List.contains_eq_mem, List.mem_cons, List.not_mem_nil, or_false, decide_eq_true_eq] at q; exact q)) with rfl | rfl | rfl | rfl | rfl <;> rfl) (fun k q => by rcases (show k = 97 ∨ k = 98 ∨ k = 99 ∨ k = 102 ∨ k = 103 ∨ k = 105 by (simp only [List.contains_eq_mem, List.mem_cons, List.not_mem_nil, or_false, decide_eq_true_eq] at q; exact q)) with rfl | rfl | rfl | rfl | rfl | rfl <;> rfl))⟩
                          · replace f := f.trans (if_neg c121)
                            exfalso; omega
                  · replace f := f.trans (pf_call_eq ((nf_isTrialR (V := W) a1 a2 a3).2 c116))
                    replace f := f.trans (if_pos (by decide))
                    exfalso; omega
            · replace e := e.trans (if_neg c43)
              have f := F_X12_answer_eq a1 a2 a3 a4 W
              obtain ⟨u129, hu130⟩ : ∃ y, W 90 16 = y := ⟨_, rfl⟩
              replace f := f.trans (pf_let_eq hu130)
              obtain ⟨u131, hu132⟩ : ∃ y, W 90 25 = y := ⟨_, rfl⟩
              replace f := f.trans (pf_let_eq hu132)
              by_cases c133 : 0 ≤ a1 ∧ a1 / 100 < W 90 23 ∧ a1 / 10 % 10 < W 90 16 ∧ a1 % 10 < W 90 16 ∧ 0 ≤ a2 ∧ a2 ≤ 99 ∧ -99 ≤ a3 ∧ a3 ≤ 99
              · replace f := f.trans (pf_call_eq ((nf_isTrialR (V := W) a1 a2 a3).1 c133))
                replace f := f.trans (if_neg (by decide))
                by_cases c135 : a4 < 0
                · replace f := f.trans (if_pos c135)
                  exact ⟨(-1), V, W, e, f, hq0⟩
                · replace f := f.trans (if_neg c135)
                  by_cases c136 : 1 < (a4 / 100)
                  · replace f := f.trans (if_pos c136)
                    exact ⟨(-1), V, W, e, f, hq0⟩
                  · replace f := f.trans (if_neg c136)
                    by_cases c137 : u129 ≤ (a4 % 100)
                    · replace f := f.trans (if_pos c137)
                      exact ⟨(-1), V, W, e, f, hq0⟩
                    · replace f := f.trans (if_neg c137)
                      by_cases c138 : ¬ (u131 = 60)
                      · replace f := f.trans (if_pos c138)
                        have q139 := F_X12_keepsAnswer_eq a1 a2 a3 (a4 % 100) (a4 / 100) W
                        obtain ⟨u140, hu141⟩ : ∃ y, W 90 16 = y := ⟨_, rfl⟩
                        replace q139 := q139.trans (pf_let_eq hu141)
                        obtain ⟨u142, hu143⟩ : ∃ y, W 90 25 = y := ⟨_, rfl⟩
                        replace q139 := q139.trans (pf_let_eq hu143)
                        replace f := f.trans (pf_call_eq q139)
                        obtain ⟨u144, hu145⟩ : ∃ y, (pm_up (pm_up (pm_up (pm_up (pm_up (pm_up W 101 ((5 * u142) : Int).toNat a1) 101 (((5 * u142) + 1) : Int).toNat a2) 101 (((5 * u142) + 2) : Int).toNat a3) 101 (((5 * u142) + 3) : Int).toNat (a4 % 100)) 101 (((5 * u142) + 4) : Int).toNat (a4 / 100)) 90 25 (u142 + 1)) 90 25 = y := ⟨_, rfl⟩
                        replace f := f.trans (pf_let_eq hu145)
                        have hu145' : (u142 + 1) = u144 := hu145
                        exfalso; omega
                      · replace f := f.trans (if_neg c138)
                        exact ⟨(-1), V, W, e, f, hq0⟩
              · replace f := f.trans (pf_call_eq ((nf_isTrialR (V := W) a1 a2 a3).2 c133))
                replace f := f.trans (if_pos (by decide))
                exact ⟨(-1), V, W, e, f, hq0⟩
          · replace e := e.trans (pf_call_eq ((nf_isSound (V := V) hs (a4 % 100)).2 c39))
            replace e := e.trans (if_pos (by decide))
            have f := F_X12_answer_eq a1 a2 a3 a4 W
            obtain ⟨u146, hu147⟩ : ∃ y, W 90 16 = y := ⟨_, rfl⟩
            replace f := f.trans (pf_let_eq hu147)
            obtain ⟨u148, hu149⟩ : ∃ y, W 90 25 = y := ⟨_, rfl⟩
            replace f := f.trans (pf_let_eq hu149)
            by_cases c150 : 0 ≤ a1 ∧ a1 / 100 < W 90 23 ∧ a1 / 10 % 10 < W 90 16 ∧ a1 % 10 < W 90 16 ∧ 0 ≤ a2 ∧ a2 ≤ 99 ∧ -99 ≤ a3 ∧ a3 ≤ 99
            · replace f := f.trans (pf_call_eq ((nf_isTrialR (V := W) a1 a2 a3).1 c150))
              replace f := f.trans (if_neg (by decide))
              by_cases c152 : a4 < 0
              · replace f := f.trans (if_pos c152)
                exact ⟨(-1), V, W, e, f, hq0⟩
              · replace f := f.trans (if_neg c152)
                by_cases c153 : 1 < (a4 / 100)
                · replace f := f.trans (if_pos c153)
                  exact ⟨(-1), V, W, e, f, hq0⟩
                · replace f := f.trans (if_neg c153)
                  by_cases c154 : u146 ≤ (a4 % 100)
                  · replace f := f.trans (if_pos c154)
                    exact ⟨(-1), V, W, e, f, hq0⟩
                  · replace f := f.trans (if_neg c154)
                    by_cases c155 : ¬ (u148 = 60)
                    · replace f := f.trans (if_pos c155)
                      have q156 := F_X12_keepsAnswer_eq a1 a2 a3 (a4 % 100) (a4 / 100) W
                      obtain ⟨u157, hu158⟩ : ∃ y, W 90 16 = y := ⟨_, rfl⟩
                      replace q156 := q156.trans (pf_let_eq hu158)
                      obtain ⟨u159, hu160⟩ : ∃ y, W 90 25 = y := ⟨_, rfl⟩
                      replace q156 := q156.trans (pf_let_eq hu160)
                      replace f := f.trans (pf_call_eq q156)
                      obtain ⟨u161, hu162⟩ : ∃ y, (pm_up (pm_up (pm_up (pm_up (pm_up (pm_up W 101 ((5 * u159) : Int).toNat a1) 101 (((5 * u159) + 1) : Int).toNat a2) 101 (((5 * u159) + 2) : Int).toNat a3) 101 (((5 * u159) + 3) : Int).toNat (a4 % 100)) 101 (((5 * u159) + 4) : Int).toNat (a4 / 100)) 90 25 (u159 + 1)) 90 25 = y := ⟨_, rfl⟩
                      replace f := f.trans (pf_let_eq hu162)
                      have hu162' : (u159 + 1) = u161 := hu162
                      exfalso; omega
                    · replace f := f.trans (if_neg c155)
                      exact ⟨(-1), V, W, e, f, hq0⟩
            · replace f := f.trans (pf_call_eq ((nf_isTrialR (V := W) a1 a2 a3).2 c150))
              replace f := f.trans (if_pos (by decide))
              exact ⟨(-1), V, W, e, f, hq0⟩
    · replace e := e.trans (pf_call_eq ((nf_isTrial (V := V) hs a1 a2 a3).2 c1))
      replace e := e.trans (if_pos (by decide))
      have f := F_X12_answer_eq a1 a2 a3 a4 W
      obtain ⟨u163, hu164⟩ : ∃ y, W 90 16 = y := ⟨_, rfl⟩
      replace f := f.trans (pf_let_eq hu164)
      obtain ⟨u165, hu166⟩ : ∃ y, W 90 25 = y := ⟨_, rfl⟩
      replace f := f.trans (pf_let_eq hu166)
      by_cases c167 : 0 ≤ a1 ∧ a1 / 100 < W 90 23 ∧ a1 / 10 % 10 < W 90 16 ∧ a1 % 10 < W 90 16 ∧ 0 ≤ a2 ∧ a2 ≤ 99 ∧ -99 ≤ a3 ∧ a3 ≤ 99
      · replace f := f.trans (pf_call_eq ((nf_isTrialR (V := W) a1 a2 a3).1 c167))
        replace f := f.trans (if_neg (by decide))
        by_cases c169 : a4 < 0
        · replace f := f.trans (if_pos c169)
          exact ⟨(-1), V, W, e, f, hq0⟩
        · replace f := f.trans (if_neg c169)
          by_cases c170 : 1 < (a4 / 100)
          · replace f := f.trans (if_pos c170)
            exact ⟨(-1), V, W, e, f, hq0⟩
          · replace f := f.trans (if_neg c170)
            by_cases c171 : u163 ≤ (a4 % 100)
            · replace f := f.trans (if_pos c171)
              exact ⟨(-1), V, W, e, f, hq0⟩
            · replace f := f.trans (if_neg c171)
              by_cases c172 : ¬ (u165 = 60)
              · replace f := f.trans (if_pos c172)
                have q173 := F_X12_keepsAnswer_eq a1 a2 a3 (a4 % 100) (a4 / 100) W
                obtain ⟨u174, hu175⟩ : ∃ y, W 90 16 = y := ⟨_, rfl⟩
                replace q173 := q173.trans (pf_let_eq hu175)
                obtain ⟨u176, hu177⟩ : ∃ y, W 90 25 = y := ⟨_, rfl⟩
                replace q173 := q173.trans (pf_let_eq hu177)
                replace f := f.trans (pf_call_eq q173)
                obtain ⟨u178, hu179⟩ : ∃ y, (pm_up (pm_up (pm_up (pm_up (pm_up (pm_up W 101 ((5 * u176) : Int).toNat a1) 101 (((5 * u176) + 1) : Int).toNat a2) 101 (((5 * u176) + 2) : Int).toNat a3) 101 (((5 * u176) + 3) : Int).toNat (a4 % 100)) 101 (((5 * u176) + 4) : Int).toNat (a4 / 100)) 90 25 (u176 + 1)) 90 25 = y := ⟨_, rfl⟩
                replace f := f.trans (pf_let_eq hu179)
                have hu179' : (u176 + 1) = u178 := hu179
                exfalso; omega
              · replace f := f.trans (if_neg c172)
                exact ⟨(-1), V, W, e, f, hq0⟩
      · replace f := f.trans (pf_call_eq ((nf_isTrialR (V := W) a1 a2 a3).2 c167))
        replace f := f.trans (if_pos (by decide))
        exact ⟨(-1), V, W, e, f, hq0⟩
set_option maxHeartbeats 40000000 in
theorem mB_count {V W : pm_M} (hq : rq V W) (hA : W 90 16 ≤ 0 → W 90 19 = 0 ∧ W 90 20 = 0) (hT : V 1 1 = W 90 1) (a1 : Int) : ∃ y V1 W1, F_X11_count a1 V = (y, V1) ∧ F_X12_count a1 W = (y, W1) ∧ rq V1 W1 := by
  have hq0 := hq
  have hs := hq.hs
  obtain ⟨h1, h2, h3, h4, h5, h6, h7⟩ := hq
  rcases h1 with ⟨h8, -⟩ | ⟨h8, -⟩
  · skip
    rw [show (V 0 8).toNat = 45 by omega] at h3
    obtain ⟨s0, s10, sj, s4, -⟩ := h3
    rcases h2 with ⟨h9, -⟩ | ⟨h9, -⟩
    · skip
      rw [show (V 0 10).toNat = 57 by omega] at h4
      have e := F_X11_count_eq a1 V
      by_cases c1 : a1 < 0 ∨ 7 < a1
      · replace e := e.trans (if_pos c1)
        have f := F_X12_count_eq a1 W
        by_cases c2 : a1 < 0 ∨ 7 < a1
        · replace f := f.trans (if_pos c2)
          exact ⟨(-1), V, W, e, f, hq0⟩
        · replace f := f.trans (if_neg c2)
          by_cases c3 : a1 = 0
          · replace f := f.trans (if_pos c3)
            obtain ⟨u4, hu5⟩ : ∃ y, W 90 16 = y := ⟨_, rfl⟩
            replace f := f.trans (pf_let_eq hu5)
            first | (exfalso; omega) | exact ⟨_, V, W, e, f.trans (congrArg (fun z => (z, W)) (show u4 = (-1) by omega)), hq0⟩ | (have g := s4 (by omega); exact ⟨_, V, W, e, f.trans (congrArg (fun z => (z, W)) (show u4 = (-1) by omega)), hq0⟩) | (have g := hA (by omega); exact ⟨_, V, W, e, f.trans (congrArg (fun z => (z, W)) (show u4 = (-1) by omega)), hq0⟩)
          · replace f := f.trans (if_neg c3)
            by_cases c6 : a1 = 1
            · replace f := f.trans (if_pos c6)
              obtain ⟨u7, hu8⟩ : ∃ y, W 90 21 = y := ⟨_, rfl⟩
              replace f := f.trans (pf_let_eq hu8)
              first | (exfalso; omega) | exact ⟨_, V, W, e, f.trans (congrArg (fun z => (z, W)) (show u7 = (-1) by omega)), hq0⟩ | (have g := s4 (by omega); exact ⟨_, V, W, e, f.trans (congrArg (fun z => (z, W)) (show u7 = (-1) by omega)), hq0⟩) | (have g := hA (by omega); exact ⟨_, V, W, e, f.trans (congrArg (fun z => (z, W)) (show u7 = (-1) by omega)), hq0⟩)
            · replace f := f.trans (if_neg c6)
              by_cases c9 : a1 = 2
              · replace f := f.trans (if_pos c9)
                obtain ⟨u10, hu11⟩ : ∃ y, W 90 23 = y := ⟨_, rfl⟩
                replace f := f.trans (pf_let_eq hu11)
                first | (exfalso; omega) | exact ⟨_, V, W, e, f.trans (congrArg (fun z => (z, W)) (show u10 = (-1) by omega)), hq0⟩ | (have g := s4 (by omega); exact ⟨_, V, W, e, f.trans (congrArg (fun z => (z, W)) (show u10 = (-1) by omega)), hq0⟩) | (have g := hA (by omega); exact ⟨_, V, W, e, f.trans (congrArg (fun z => (z, W)) (show u10 = (-1) by omega)), hq0⟩)
              · replace f := f.trans (if_neg c9)
                by_cases c12 : a1 = 3
                · replace f := f.trans (if_pos c12)
                  obtain ⟨u13, hu14⟩ : ∃ y, W 90 25 = y := ⟨_, rfl⟩
                  replace f := f.trans (pf_let_eq hu14)
                  first | (exfalso; omega) | exact ⟨_, V, W, e, f.trans (congrArg (fun z => (z, W)) (show u13 = (-1) by omega)), hq0⟩ | (have g := s4 (by omega); exact ⟨_, V, W, e, f.trans (congrArg (fun z => (z, W)) (show u13 = (-1) by omega)), hq0⟩) | (have g := hA (by omega); exact ⟨_, V, W, e, f.trans (congrArg (fun z => (z, W)) (show u13 = (-1) by omega)), hq0⟩)
                · replace f := f.trans (if_neg c12)
                  by_cases c15 : a1 = 4
                  · replace f := f.trans (if_pos c15)
                    obtain ⟨u16, hu17⟩ : ∃ y, W 90 35 = y := ⟨_, rfl⟩
                    replace f := f.trans (pf_let_eq hu17)
                    first | (exfalso; omega) | exact ⟨_, V, W, e, f.trans (congrArg (fun z => (z, W)) (show u16 = (-1) by omega)), hq0⟩ | (have g := s4 (by omega); exact ⟨_, V, W, e, f.trans (congrArg (fun z => (z, W)) (show u16 = (-1) by omega)), hq0⟩) | (have g := hA (by omega); exact ⟨_, V, W, e, f.trans (congrArg (fun z => (z, W)) (show u16 = (-1) by omega)), hq0⟩)
                  · replace f := f.trans (if_neg c15)
                    by_cases c18 : a1 = 5
                    · replace f := f.trans (if_pos c18)
                      obtain ⟨u19, hu20⟩ : ∃ y, W 90 19 = y := ⟨_, rfl⟩
                      replace f := f.trans (pf_let_eq hu20)
                      first | (exfalso; omega) | exact ⟨_, V, W, e, f.trans (congrArg (fun z => (z, W)) (show u19 = (-1) by omega)), hq0⟩ | (have g := s4 (by omega); exact ⟨_, V, W, e, f.trans (congrArg (fun z => (z, W)) (show u19 = (-1) by omega)), hq0⟩) | (have g := hA (by omega); exact ⟨_, V, W, e, f.trans (congrArg (fun z => (z, W)) (show u19 = (-1) by omega)), hq0⟩)
                    · replace f := f.trans (if_neg c18)
                      by_cases c21 : a1 = 6
                      · replace f := f.trans (if_pos c21)
                        obtain ⟨u22, hu23⟩ : ∃ y, W 90 20 = y := ⟨_, rfl⟩
                        replace f := f.trans (pf_let_eq hu23)
                        first | (exfalso; omega) | exact ⟨_, V, W, e, f.trans (congrArg (fun z => (z, W)) (show u22 = (-1) by omega)), hq0⟩ | (have g := s4 (by omega); exact ⟨_, V, W, e, f.trans (congrArg (fun z => (z, W)) (show u22 = (-1) by omega)), hq0⟩) | (have g := hA (by omega); exact ⟨_, V, W, e, f.trans (congrArg (fun z => (z, W)) (show u22 = (-1) by omega)), hq0⟩)
                      · replace f := f.trans (if_neg c21)
                        by_cases c24 : a1 = 7
                        · replace f := f.trans (if_pos c24)
                          obtain ⟨u25, hu26⟩ : ∃ y, W 90 1 = y := ⟨_, rfl⟩
                          replace f := f.trans (pf_let_eq hu26)
                          first | (exfalso; omega) | exact ⟨_, V, W, e, f.trans (congrArg (fun z => (z, W)) (show u25 = (-1) by omega)), hq0⟩ | (have g := s4 (by omega); exact ⟨_, V, W, e, f.trans (congrArg (fun z => (z, W)) (show u25 = (-1) by omega)), hq0⟩) | (have g := hA (by omega); exact ⟨_, V, W, e, f.trans (congrArg (fun z => (z, W)) (show u25 = (-1) by omega)), hq0⟩)
                        · replace f := f.trans (if_neg c24)
                          first | (exfalso; omega) | exact ⟨_, V, W, e, f.trans (congrArg (fun z => (z, W)) (show (0 : Int) = (-1) by omega)), hq0⟩ | (have g := s4 (by omega); exact ⟨_, V, W, e, f.trans (congrArg (fun z => (z, W)) (show (0 : Int) = (-1) by omega)), hq0⟩) | (have g := hA (by omega); exact ⟨_, V, W, e, f.trans (congrArg (fun z => (z, W)) (show (0 : Int) = (-1) by omega)), hq0⟩)
      · replace e := e.trans (if_neg c1)
        by_cases c27 : a1 = 0
        · replace e := e.trans (if_pos c27)
          replace e := e.trans (if_pos (by omega))
          obtain ⟨u28, hu29⟩ : ∃ y, V 45 0 = y := ⟨_, rfl⟩
          replace e := e.trans (pf_let_eq hu29)
          have f := F_X12_count_eq a1 W
          replace f := f.trans (if_neg (by omega))
          replace f := f.trans (if_pos (by omega))
          obtain ⟨u30, hu31⟩ : ∃ y, W 90 16 = y := ⟨_, rfl⟩
          replace f := f.trans (pf_let_eq hu31)
          first | (exfalso; omega) | exact ⟨_, V, W, e, f.trans (congrArg (fun z => (z, W)) (show u30 = u28 by omega)), hq0⟩ | (have g := s4 (by omega); exact ⟨_, V, W, e, f.trans (congrArg (fun z => (z, W)) (show u30 = u28 by omega)), hq0⟩) | (have g := hA (by omega); exact ⟨_, V, W, e, f.trans (congrArg (fun z => (z, W)) (show u30 = u28 by omega)), hq0⟩)
        · replace e := e.trans (if_neg c27)
          by_cases c32 : a1 = 1
          · replace e := e.trans (if_pos c32)
            replace e := e.trans (if_pos (by omega))
            obtain ⟨u33, hu34⟩ : ∃ y, V 45 10 = y := ⟨_, rfl⟩
            replace e := e.trans (pf_let_eq hu34)
            have f := F_X12_count_eq a1 W
            replace f := f.trans (if_neg (by omega))
            replace f := f.trans (if_neg (by omega))
            replace f := f.trans (if_pos (by omega))
            obtain ⟨u35, hu36⟩ : ∃ y, W 90 21 = y := ⟨_, rfl⟩
            replace f := f.trans (pf_let_eq hu36)
            first | (exfalso; omega) | exact ⟨_, V, W, e, f.trans (congrArg (fun z => (z, W)) (show u35 = u33 by omega)), hq0⟩ | (have g := s4 (by omega); exact ⟨_, V, W, e, f.trans (congrArg (fun z => (z, W)) (show u35 = u33 by omega)), hq0⟩) | (have g := hA (by omega); exact ⟨_, V, W, e, f.trans (congrArg (fun z => (z, W)) (show u35 = u33 by omega)), hq0⟩)
          · replace e := e.trans (if_neg c32)
            by_cases c37 : a1 = 2
            · replace e := e.trans (if_pos c37)
              obtain ⟨u38, hu39⟩ : ∃ y, V 4 1 = y := ⟨_, rfl⟩
              replace e := e.trans (pf_let_eq hu39)
              have f := F_X12_count_eq a1 W
              replace f := f.trans (if_neg (by omega))
              replace f := f.trans (if_neg (by omega))
              replace f := f.trans (if_neg (by omega))
              replace f := f.trans (if_pos (by omega))
              obtain ⟨u40, hu41⟩ : ∃ y, W 90 23 = y := ⟨_, rfl⟩
              replace f := f.trans (pf_let_eq hu41)
              first | (exfalso; omega) | exact ⟨_, V, W, e, f.trans (congrArg (fun z => (z, W)) (show u40 = u38 by omega)), hq0⟩ | (have g := s4 (by omega); exact ⟨_, V, W, e, f.trans (congrArg (fun z => (z, W)) (show u40 = u38 by omega)), hq0⟩) | (have g := hA (by omega); exact ⟨_, V, W, e, f.trans (congrArg (fun z => (z, W)) (show u40 = u38 by omega)), hq0⟩)
            · replace e := e.trans (if_neg c37)
              by_cases c42 : a1 = 3
              · replace e := e.trans (if_pos c42)
                obtain ⟨u43, hu44⟩ : ∃ y, V 4 6 = y := ⟨_, rfl⟩
                replace e := e.trans (pf_let_eq hu44)
                have f := F_X12_count_eq a1 W
                replace f := f.trans (if_neg (by omega))
                replace f := f.trans (if_neg (by omega))
                replace f := f.trans (if_neg (by omega))
                replace f := f.trans (if_neg (by omega))
                replace f := f.trans (if_pos (by omega))
                obtain ⟨u45, hu46⟩ : ∃ y, W 90 25 = y := ⟨_, rfl⟩
                replace f := f.trans (pf_let_eq hu46)
                first | (exfalso; omega) | exact ⟨_, V, W, e, f.trans (congrArg (fun z => (z, W)) (show u45 = u43 by omega)), hq0⟩ | (have g := s4 (by omega); exact ⟨_, V, W, e, f.trans (congrArg (fun z => (z, W)) (show u45 = u43 by omega)), hq0⟩) | (have g := hA (by omega); exact ⟨_, V, W, e, f.trans (congrArg (fun z => (z, W)) (show u45 = u43 by omega)), hq0⟩)
              · replace e := e.trans (if_neg c42)
                by_cases c47 : a1 = 4
                · replace e := e.trans (if_pos c47)
                  replace e := e.trans (if_pos (by omega))
                  obtain ⟨u48, hu49⟩ : ∃ y, V 57 0 = y := ⟨_, rfl⟩
                  replace e := e.trans (pf_let_eq hu49)
                  have f := F_X12_count_eq a1 W
                  replace f := f.trans (if_neg (by omega))
                  replace f := f.trans (if_neg (by omega))
                  replace f := f.trans (if_neg (by omega))
                  replace f := f.trans (if_neg (by omega))
                  replace f := f.trans (if_neg (by omega))
                  replace f := f.trans (if_pos (by omega))
                  obtain ⟨u50, hu51⟩ : ∃ y, W 90 35 = y := ⟨_, rfl⟩
                  replace f := f.trans (pf_let_eq hu51)
                  first | (exfalso; omega) | exact ⟨_, V, W, e, f.trans (congrArg (fun z => (z, W)) (show u50 = u48 by omega)), hq0⟩ | (have g := s4 (by omega); exact ⟨_, V, W, e, f.trans (congrArg (fun z => (z, W)) (show u50 = u48 by omega)), hq0⟩) | (have g := hA (by omega); exact ⟨_, V, W, e, f.trans (congrArg (fun z => (z, W)) (show u50 = u48 by omega)), hq0⟩)
                · replace e := e.trans (if_neg c47)
                  by_cases c52 : a1 = 5
                  · replace e := e.trans (if_pos c52)
                    by_cases c53 : (0 : Int) < W 90 16
                    · replace e := e.trans (pf_call_eq ((nf_hasScene (V := V) hs).1 c53))
                      replace e := e.trans (if_neg (by decide))
                      replace e := e.trans (if_pos (by omega))
                      obtain ⟨u55, hu56⟩ : ∃ y, V 45 8 = y := ⟨_, rfl⟩
                      replace e := e.trans (pf_let_eq hu56)
                      have f := F_X12_count_eq a1 W
                      replace f := f.trans (if_neg (by omega))
                      replace f := f.trans (if_neg (by omega))
                      replace f := f.trans (if_neg (by omega))
                      replace f := f.trans (if_neg (by omega))
                      replace f := f.trans (if_neg (by omega))
                      replace f := f.trans (if_neg (by omega))
                      replace f := f.trans (if_pos (by omega))
                      obtain ⟨u57, hu58⟩ : ∃ y, W 90 19 = y := ⟨_, rfl⟩
                      replace f := f.trans (pf_let_eq hu58)
                      first | (exfalso; omega) | exact ⟨_, V, W, e, f.trans (congrArg (fun z => (z, W)) (show u57 = u55 by omega)), hq0⟩ | (have g := s4 (by omega); exact ⟨_, V, W, e, f.trans (congrArg (fun z => (z, W)) (show u57 = u55 by omega)), hq0⟩) | (have g := hA (by omega); exact ⟨_, V, W, e, f.trans (congrArg (fun z => (z, W)) (show u57 = u55 by omega)), hq0⟩)
                    · replace e := e.trans (pf_call_eq ((nf_hasScene (V := V) hs).2 c53))
                      replace e := e.trans (if_pos (by decide))
                      have f := F_X12_count_eq a1 W
                      replace f := f.trans (if_neg (by omega))
                      replace f := f.trans (if_neg (by omega))
                      replace f := f.trans (if_neg (by omega))
                      replace f := f.trans (if_neg (by omega))
                      replace f := f.trans (if_neg (by omega))
                      replace f := f.trans (if_neg (by omega))
                      replace f := f.trans (if_pos (by omega))
                      obtain ⟨u59, hu60⟩ : ∃ y, W 90 19 = y := ⟨_, rfl⟩
                      replace f := f.trans (pf_let_eq hu60)
                      first | (exfalso; omega) | exact ⟨_, V, W, e, f.trans (congrArg (fun z => (z, W)) (show u59 = 0 by omega)), hq0⟩ | (have g := s4 (by omega); exact ⟨_, V, W, e, f.trans (congrArg (fun z => (z, W)) (show u59 = 0 by omega)), hq0⟩) | (have g := hA (by omega); exact ⟨_, V, W, e, f.trans (congrArg (fun z => (z, W)) (show u59 = 0 by omega)), hq0⟩)
                  · replace e := e.trans (if_neg c52)
                    by_cases c61 : a1 = 6
                    · replace e := e.trans (if_pos c61)
                      by_cases c62 : (0 : Int) < W 90 16
                      · replace e := e.trans (pf_call_eq ((nf_hasScene (V := V) hs).1 c62))
                        replace e := e.trans (if_neg (by decide))
                        replace e := e.trans (if_pos (by omega))
                        obtain ⟨u64, hu65⟩ : ∃ y, V 45 9 = y := ⟨_, rfl⟩
                        replace e := e.trans (pf_let_eq hu65)
                        have f := F_X12_count_eq a1 W
                        replace f := f.trans (if_neg (by omega))
                        replace f := f.trans (if_neg (by omega))
                        replace f := f.trans (if_neg (by omega))
                        replace f := f.trans (if_neg (by omega))
                        replace f := f.trans (if_neg (by omega))
                        replace f := f.trans (if_neg (by omega))
                        replace f := f.trans (if_neg (by omega))
                        replace f := f.trans (if_pos (by omega))
                        obtain ⟨u66, hu67⟩ : ∃ y, W 90 20 = y := ⟨_, rfl⟩
                        replace f := f.trans (pf_let_eq hu67)
                        first | (exfalso; omega) | exact ⟨_, V, W, e, f.trans (congrArg (fun z => (z, W)) (show u66 = u64 by omega)), hq0⟩ | (have g := s4 (by omega); exact ⟨_, V, W, e, f.trans (congrArg (fun z => (z, W)) (show u66 = u64 by omega)), hq0⟩) | (have g := hA (by omega); exact ⟨_, V, W, e, f.trans (congrArg (fun z => (z, W)) (show u66 = u64 by omega)), hq0⟩)
                      · replace e := e.trans (pf_call_eq ((nf_hasScene (V := V) hs).2 c62))
                        replace e := e.trans (if_pos (by decide))
                        have f := F_X12_count_eq a1 W
                        replace f := f.trans (if_neg (by omega))
                        replace f := f.trans (if_neg (by omega))
                        replace f := f.trans (if_neg (by omega))
                        replace f := f.trans (if_neg (by omega))
                        replace f := f.trans (if_neg (by omega))
                        replace f := f.trans (if_neg (by omega))
                        replace f := f.trans (if_neg (by omega))
                        replace f := f.trans (if_pos (by omega))
                        obtain ⟨u68, hu69⟩ : ∃ y, W 90 20 = y := ⟨_, rfl⟩
                        replace f := f.trans (pf_let_eq hu69)
                        first | (exfalso; omega) | exact ⟨_, V, W, e, f.trans (congrArg (fun z => (z, W)) (show u68 = 0 by omega)), hq0⟩ | (have g := s4 (by omega); exact ⟨_, V, W, e, f.trans (congrArg (fun z => (z, W)) (show u68 = 0 by omega)), hq0⟩) | (have g := hA (by omega); exact ⟨_, V, W, e, f.trans (congrArg (fun z => (z, W)) (show u68 = 0 by omega)), hq0⟩)
                    · replace e := e.trans (if_neg c61)
                      by_cases c70 : a1 = 7
                      · replace e := e.trans (if_pos c70)
                        obtain ⟨u71, hu72⟩ : ∃ y, V 1 1 = y := ⟨_, rfl⟩
                        replace e := e.trans (pf_let_eq hu72)
                        have f := F_X12_count_eq a1 W
                        replace f := f.trans (if_neg (by omega))
                        replace f := f.trans (if_neg (by omega))
                        replace f := f.trans (if_neg (by omega))
                        replace f := f.trans (if_neg (by omega))
                        replace f := f.trans (if_neg (by omega))
                        replace f := f.trans (if_neg (by omega))
                        replace f := f.trans (if_neg (by omega))
                        replace f := f.trans (if_neg (by omega))
                        replace f := f.trans (if_pos (by omega))
                        obtain ⟨u73, hu74⟩ : ∃ y, W 90 1 = y := ⟨_, rfl⟩
                        replace f := f.trans (pf_let_eq hu74)
                        first | (exfalso; omega) | exact ⟨_, V, W, e, f.trans (congrArg (fun z => (z, W)) (show u73 = u71 by omega)), hq0⟩ | (have g := s4 (by omega); exact ⟨_, V, W, e, f.trans (congrArg (fun z => (z, W)) (show u73 = u71 by omega)), hq0⟩) | (have g := hA (by omega); exact ⟨_, V, W, e, f.trans (congrArg (fun z => (z, W)) (show u73 = u71 by omega)), hq0⟩)
                      · replace e := e.trans (if_neg c70)
                        have f := F_X12_count_eq a1 W
                        by_cases c75 : a1 < 0 ∨ 7 < a1
                        · replace f := f.trans (if_pos c75)
                          first | (exfalso; omega) | exact ⟨_, V, W, e, f.trans (congrArg (fun z => (z, W)) (show (-1) = (0 : Int) by omega)), hq0⟩ | (have g := s4 (by omega); exact ⟨_, V, W, e, f.trans (congrArg (fun z => (z, W)) (show (-1) = (0 : Int) by omega)), hq0⟩) | (have g := hA (by omega); exact ⟨_, V, W, e, f.trans (congrArg (fun z => (z, W)) (show (-1) = (0 : Int) by omega)), hq0⟩)
                        · replace f := f.trans (if_neg c75)
                          by_cases c76 : a1 = 0
                          · replace f := f.trans (if_pos c76)
                            obtain ⟨u77, hu78⟩ : ∃ y, W 90 16 = y := ⟨_, rfl⟩
                            replace f := f.trans (pf_let_eq hu78)
                            first | (exfalso; omega) | exact ⟨_, V, W, e, f.trans (congrArg (fun z => (z, W)) (show u77 = (0 : Int) by omega)), hq0⟩ | (have g := s4 (by omega); exact ⟨_, V, W, e, f.trans (congrArg (fun z => (z, W)) (show u77 = (0 : Int) by omega)), hq0⟩) | (have g := hA (by omega); exact ⟨_, V, W, e, f.trans (congrArg (fun z => (z, W)) (show u77 = (0 : Int) by omega)), hq0⟩)
                          · replace f := f.trans (if_neg c76)
                            by_cases c79 : a1 = 1
                            · replace f := f.trans (if_pos c79)
                              obtain ⟨u80, hu81⟩ : ∃ y, W 90 21 = y := ⟨_, rfl⟩
                              replace f := f.trans (pf_let_eq hu81)
                              first | (exfalso; omega) | exact ⟨_, V, W, e, f.trans (congrArg (fun z => (z, W)) (show u80 = (0 : Int) by omega)), hq0⟩ | (have g := s4 (by omega); exact ⟨_, V, W, e, f.trans (congrArg (fun z => (z, W)) (show u80 = (0 : Int) by omega)), hq0⟩) | (have g := hA (by omega); exact ⟨_, V, W, e, f.trans (congrArg (fun z => (z, W)) (show u80 = (0 : Int) by omega)), hq0⟩)
                            · replace f := f.trans (if_neg c79)
                              by_cases c82 : a1 = 2
                              · replace f := f.trans (if_pos c82)
                                obtain ⟨u83, hu84⟩ : ∃ y, W 90 23 = y := ⟨_, rfl⟩
                                replace f := f.trans (pf_let_eq hu84)
                                first | (exfalso; omega) | exact ⟨_, V, W, e, f.trans (congrArg (fun z => (z, W)) (show u83 = (0 : Int) by omega)), hq0⟩ | (have g := s4 (by omega); exact ⟨_, V, W, e, f.trans (congrArg (fun z => (z, W)) (show u83 = (0 : Int) by omega)), hq0⟩) | (have g := hA (by omega); exact ⟨_, V, W, e, f.trans (congrArg (fun z => (z, W)) (show u83 = (0 : Int) by omega)), hq0⟩)
                              · replace f := f.trans (if_neg c82)
                                by_cases c85 : a1 = 3
                                · replace f := f.trans (if_pos c85)
                                  obtain ⟨u86, hu87⟩ : ∃ y, W 90 25 = y := ⟨_, rfl⟩
                                  replace f := f.trans (pf_let_eq hu87)
                                  first | (exfalso; omega) | exact ⟨_, V, W, e, f.trans (congrArg (fun z => (z, W)) (show u86 = (0 : Int) by omega)), hq0⟩ | (have g := s4 (by omega); exact ⟨_, V, W, e, f.trans (congrArg (fun z => (z, W)) (show u86 = (0 : Int) by omega)), hq0⟩) | (have g := hA (by omega); exact ⟨_, V, W, e, f.trans (congrArg (fun z => (z, W)) (show u86 = (0 : Int) by omega)), hq0⟩)
                                · replace f := f.trans (if_neg c85)
                                  by_cases c88 : a1 = 4
                                  · replace f := f.trans (if_pos c88)
                                    obtain ⟨u89, hu90⟩ : ∃ y, W 90 35 = y := ⟨_, rfl⟩
                                    replace f := f.trans (pf_let_eq hu90)
                                    first | (exfalso; omega) | exact ⟨_, V, W, e, f.trans (congrArg (fun z => (z, W)) (show u89 = (0 : Int) by omega)), hq0⟩ | (have g := s4 (by omega); exact ⟨_, V, W, e, f.trans (congrArg (fun z => (z, W)) (show u89 = (0 : Int) by omega)), hq0⟩) | (have g := hA (by omega); exact ⟨_, V, W, e, f.trans (congrArg (fun z => (z, W)) (show u89 = (0 : Int) by omega)), hq0⟩)
                                  · replace f := f.trans (if_neg c88)
                                    by_cases c91 : a1 = 5
                                    · replace f := f.trans (if_pos c91)
                                      obtain ⟨u92, hu93⟩ : ∃ y, W 90 19 = y := ⟨_, rfl⟩
                                      replace f := f.trans (pf_let_eq hu93)
                                      first | (exfalso; omega) | exact ⟨_, V, W, e, f.trans (congrArg (fun z => (z, W)) (show u92 = (0 : Int) by omega)), hq0⟩ | (have g := s4 (by omega); exact ⟨_, V, W, e, f.trans (congrArg (fun z => (z, W)) (show u92 = (0 : Int) by omega)), hq0⟩) | (have g := hA (by omega); exact ⟨_, V, W, e, f.trans (congrArg (fun z => (z, W)) (show u92 = (0 : Int) by omega)), hq0⟩)
                                    · replace f := f.trans (if_neg c91)
                                      by_cases c94 : a1 = 6
                                      · replace f := f.trans (if_pos c94)
                                        obtain ⟨u95, hu96⟩ : ∃ y, W 90 20 = y := ⟨_, rfl⟩
                                        replace f := f.trans (pf_let_eq hu96)
                                        first | (exfalso; omega) | exact ⟨_, V, W, e, f.trans (congrArg (fun z => (z, W)) (show u95 = (0 : Int) by omega)), hq0⟩ | (have g := s4 (by omega); exact ⟨_, V, W, e, f.trans (congrArg (fun z => (z, W)) (show u95 = (0 : Int) by omega)), hq0⟩) | (have g := hA (by omega); exact ⟨_, V, W, e, f.trans (congrArg (fun z => (z, W)) (show u95 = (0 : Int) by omega)), hq0⟩)
                                      · replace f := f.trans (if_neg c94)
                                        by_cases c97 : a1 = 7
                                        · replace f := f.trans (if_pos c97)
                                          obtain ⟨u98, hu99⟩ : ∃ y, W 90 1 = y := ⟨_, rfl⟩
                                          replace f := f.trans (pf_let_eq hu99)
                                          first | (exfalso; omega) | exact ⟨_, V, W, e, f.trans (congrArg (fun z => (z, W)) (show u98 = (0 : Int) by omega)), hq0⟩ | (have g := s4 (by omega); exact ⟨_, V, W, e, f.trans (congrArg (fun z => (z, W)) (show u98 = (0 : Int) by omega)), hq0⟩) | (have g := hA (by omega); exact ⟨_, V, W, e, f.trans (congrArg (fun z => (z, W)) (show u98 = (0 : Int) by omega)), hq0⟩)
                                        · replace f := f.trans (if_neg c97)
                                          first | (exfalso; omega) | exact ⟨_, V, W, e, f.trans (congrArg (fun z => (z, W)) (show (0 : Int) = (0 : Int) by omega)), hq0⟩ | (have g := s4 (by omega); exact ⟨_, V, W, e, f.trans (congrArg (fun z => (z, W)) (show (0 : Int) = (0 : Int) by omega)), hq0⟩) | (have g := hA (by omega); exact ⟨_, V, W, e, f.trans (congrArg (fun z => (z, W)) (show (0 : Int) = (0 : Int) by omega)), hq0⟩)
    · skip
      rw [show (V 0 10).toNat = 63 by omega] at h4
      have e := F_X11_count_eq a1 V
      by_cases c1 : a1 < 0 ∨ 7 < a1
      · replace e := e.trans (if_pos c1)
        have f := F_X12_count_eq a1 W
        by_cases c2 : a1 < 0 ∨ 7 < a1
        · replace f := f.trans (if_pos c2)
          exact ⟨(-1), V, W, e, f, hq0⟩
        · replace f := f.trans (if_neg c2)
          by_cases c3 : a1 = 0
          · replace f := f.trans (if_pos c3)
            obtain ⟨u4, hu5⟩ : ∃ y, W 90 16 = y := ⟨_, rfl⟩
            replace f := f.trans (pf_let_eq hu5)
            first | (exfalso; omega) | exact ⟨_, V, W, e, f.trans (congrArg (fun z => (z, W)) (show u4 = (-1) by omega)), hq0⟩ | (have g := s4 (by omega); exact ⟨_, V, W, e, f.trans (congrArg (fun z => (z, W)) (show u4 = (-1) by omega)), hq0⟩) | (have g := hA (by omega); exact ⟨_, V, W, e, f.trans (congrArg (fun z => (z, W)) (show u4 = (-1) by omega)), hq0⟩)
          · replace f := f.trans (if_neg c3)
            by_cases c6 : a1 = 1
            · replace f := f.trans (if_pos c6)
              obtain ⟨u7, hu8⟩ : ∃ y, W 90 21 = y := ⟨_, rfl⟩
              replace f := f.trans (pf_let_eq hu8)
              first | (exfalso; omega) | exact ⟨_, V, W, e, f.trans (congrArg (fun z => (z, W)) (show u7 = (-1) by omega)), hq0⟩ | (have g := s4 (by omega); exact ⟨_, V, W, e, f.trans (congrArg (fun z => (z, W)) (show u7 = (-1) by omega)), hq0⟩) | (have g := hA (by omega); exact ⟨_, V, W, e, f.trans (congrArg (fun z => (z, W)) (show u7 = (-1) by omega)), hq0⟩)
            · replace f := f.trans (if_neg c6)
              by_cases c9 : a1 = 2
              · replace f := f.trans (if_pos c9)
                obtain ⟨u10, hu11⟩ : ∃ y, W 90 23 = y := ⟨_, rfl⟩
                replace f := f.trans (pf_let_eq hu11)
                first | (exfalso; omega) | exact ⟨_, V, W, e, f.trans (congrArg (fun z => (z, W)) (show u10 = (-1) by omega)), hq0⟩ | (have g := s4 (by omega); exact ⟨_, V, W, e, f.trans (congrArg (fun z => (z, W)) (show u10 = (-1) by omega)), hq0⟩) | (have g := hA (by omega); exact ⟨_, V, W, e, f.trans (congrArg (fun z => (z, W)) (show u10 = (-1) by omega)), hq0⟩)
              · replace f := f.trans (if_neg c9)
                by_cases c12 : a1 = 3
                · replace f := f.trans (if_pos c12)
                  obtain ⟨u13, hu14⟩ : ∃ y, W 90 25 = y := ⟨_, rfl⟩
                  replace f := f.trans (pf_let_eq hu14)
                  first | (exfalso; omega) | exact ⟨_, V, W, e, f.trans (congrArg (fun z => (z, W)) (show u13 = (-1) by omega)), hq0⟩ | (have g := s4 (by omega); exact ⟨_, V, W, e, f.trans (congrArg (fun z => (z, W)) (show u13 = (-1) by omega)), hq0⟩) | (have g := hA (by omega); exact ⟨_, V, W, e, f.trans (congrArg (fun z => (z, W)) (show u13 = (-1) by omega)), hq0⟩)
                · replace f := f.trans (if_neg c12)
                  by_cases c15 : a1 = 4
                  · replace f := f.trans (if_pos c15)
                    obtain ⟨u16, hu17⟩ : ∃ y, W 90 35 = y := ⟨_, rfl⟩
                    replace f := f.trans (pf_let_eq hu17)
                    first | (exfalso; omega) | exact ⟨_, V, W, e, f.trans (congrArg (fun z => (z, W)) (show u16 = (-1) by omega)), hq0⟩ | (have g := s4 (by omega); exact ⟨_, V, W, e, f.trans (congrArg (fun z => (z, W)) (show u16 = (-1) by omega)), hq0⟩) | (have g := hA (by omega); exact ⟨_, V, W, e, f.trans (congrArg (fun z => (z, W)) (show u16 = (-1) by omega)), hq0⟩)
                  · replace f := f.trans (if_neg c15)
                    by_cases c18 : a1 = 5
                    · replace f := f.trans (if_pos c18)
                      obtain ⟨u19, hu20⟩ : ∃ y, W 90 19 = y := ⟨_, rfl⟩
                      replace f := f.trans (pf_let_eq hu20)
                      first | (exfalso; omega) | exact ⟨_, V, W, e, f.trans (congrArg (fun z => (z, W)) (show u19 = (-1) by omega)), hq0⟩ | (have g := s4 (by omega); exact ⟨_, V, W, e, f.trans (congrArg (fun z => (z, W)) (show u19 = (-1) by omega)), hq0⟩) | (have g := hA (by omega); exact ⟨_, V, W, e, f.trans (congrArg (fun z => (z, W)) (show u19 = (-1) by omega)), hq0⟩)
                    · replace f := f.trans (if_neg c18)
                      by_cases c21 : a1 = 6
                      · replace f := f.trans (if_pos c21)
                        obtain ⟨u22, hu23⟩ : ∃ y, W 90 20 = y := ⟨_, rfl⟩
                        replace f := f.trans (pf_let_eq hu23)
                        first | (exfalso; omega) | exact ⟨_, V, W, e, f.trans (congrArg (fun z => (z, W)) (show u22 = (-1) by omega)), hq0⟩ | (have g := s4 (by omega); exact ⟨_, V, W, e, f.trans (congrArg (fun z => (z, W)) (show u22 = (-1) by omega)), hq0⟩) | (have g := hA (by omega); exact ⟨_, V, W, e, f.trans (congrArg (fun z => (z, W)) (show u22 = (-1) by omega)), hq0⟩)
                      · replace f := f.trans (if_neg c21)
                        by_cases c24 : a1 = 7
                        · replace f := f.trans (if_pos c24)
                          obtain ⟨u25, hu26⟩ : ∃ y, W 90 1 = y := ⟨_, rfl⟩
                          replace f := f.trans (pf_let_eq hu26)
                          first | (exfalso; omega) | exact ⟨_, V, W, e, f.trans (congrArg (fun z => (z, W)) (show u25 = (-1) by omega)), hq0⟩ | (have g := s4 (by omega); exact ⟨_, V, W, e, f.trans (congrArg (fun z => (z, W)) (show u25 = (-1) by omega)), hq0⟩) | (have g := hA (by omega); exact ⟨_, V, W, e, f.trans (congrArg (fun z => (z, W)) (show u25 = (-1) by omega)), hq0⟩)
                        · replace f := f.trans (if_neg c24)
                          first | (exfalso; omega) | exact ⟨_, V, W, e, f.trans (congrArg (fun z => (z, W)) (show (0 : Int) = (-1) by omega)), hq0⟩ | (have g := s4 (by omega); exact ⟨_, V, W, e, f.trans (congrArg (fun z => (z, W)) (show (0 : Int) = (-1) by omega)), hq0⟩) | (have g := hA (by omega); exact ⟨_, V, W, e, f.trans (congrArg (fun z => (z, W)) (show (0 : Int) = (-1) by omega)), hq0⟩)
      · replace e := e.trans (if_neg c1)
        by_cases c27 : a1 = 0
        · replace e := e.trans (if_pos c27)
          replace e := e.trans (if_pos (by omega))
          obtain ⟨u28, hu29⟩ : ∃ y, V 45 0 = y := ⟨_, rfl⟩
          replace e := e.trans (pf_let_eq hu29)
          have f := F_X12_count_eq a1 W
          replace f := f.trans (if_neg (by omega))
          replace f := f.trans (if_pos (by omega))
          obtain ⟨u30, hu31⟩ : ∃ y, W 90 16 = y := ⟨_, rfl⟩
          replace f := f.trans (pf_let_eq hu31)
          first | (exfalso; omega) | exact ⟨_, V, W, e, f.trans (congrArg (fun z => (z, W)) (show u30 = u28 by omega)), hq0⟩ | (have g := s4 (by omega); exact ⟨_, V, W, e, f.trans (congrArg (fun z => (z, W)) (show u30 = u28 by omega)), hq0⟩) | (have g := hA (by omega); exact ⟨_, V, W, e, f.trans (congrArg (fun z => (z, W)) (show u30 = u28 by omega)), hq0⟩)
        · replace e := e.trans (if_neg c27)
          by_cases c32 : a1 = 1
          · replace e := e.trans (if_pos c32)
            replace e := e.trans (if_pos (by omega))
            obtain ⟨u33, hu34⟩ : ∃ y, V 45 10 = y := ⟨_, rfl⟩
            replace e := e.trans (pf_let_eq hu34)
            have f := F_X12_count_eq a1 W
            replace f := f.trans (if_neg (by omega))
            replace f := f.trans (if_neg (by omega))
            replace f := f.trans (if_pos (by omega))
            obtain ⟨u35, hu36⟩ : ∃ y, W 90 21 = y := ⟨_, rfl⟩
            replace f := f.trans (pf_let_eq hu36)
            first | (exfalso; omega) | exact ⟨_, V, W, e, f.trans (congrArg (fun z => (z, W)) (show u35 = u33 by omega)), hq0⟩ | (have g := s4 (by omega); exact ⟨_, V, W, e, f.trans (congrArg (fun z => (z, W)) (show u35 = u33 by omega)), hq0⟩) | (have g := hA (by omega); exact ⟨_, V, W, e, f.trans (congrArg (fun z => (z, W)) (show u35 = u33 by omega)), hq0⟩)
          · replace e := e.trans (if_neg c32)
            by_cases c37 : a1 = 2
            · replace e := e.trans (if_pos c37)
              obtain ⟨u38, hu39⟩ : ∃ y, V 4 1 = y := ⟨_, rfl⟩
              replace e := e.trans (pf_let_eq hu39)
              have f := F_X12_count_eq a1 W
              replace f := f.trans (if_neg (by omega))
              replace f := f.trans (if_neg (by omega))
              replace f := f.trans (if_neg (by omega))
              replace f := f.trans (if_pos (by omega))
              obtain ⟨u40, hu41⟩ : ∃ y, W 90 23 = y := ⟨_, rfl⟩
              replace f := f.trans (pf_let_eq hu41)
              first | (exfalso; omega) | exact ⟨_, V, W, e, f.trans (congrArg (fun z => (z, W)) (show u40 = u38 by omega)), hq0⟩ | (have g := s4 (by omega); exact ⟨_, V, W, e, f.trans (congrArg (fun z => (z, W)) (show u40 = u38 by omega)), hq0⟩) | (have g := hA (by omega); exact ⟨_, V, W, e, f.trans (congrArg (fun z => (z, W)) (show u40 = u38 by omega)), hq0⟩)
            · replace e := e.trans (if_neg c37)
              by_cases c42 : a1 = 3
              · replace e := e.trans (if_pos c42)
                obtain ⟨u43, hu44⟩ : ∃ y, V 4 6 = y := ⟨_, rfl⟩
                replace e := e.trans (pf_let_eq hu44)
                have f := F_X12_count_eq a1 W
                replace f := f.trans (if_neg (by omega))
                replace f := f.trans (if_neg (by omega))
                replace f := f.trans (if_neg (by omega))
                replace f := f.trans (if_neg (by omega))
                replace f := f.trans (if_pos (by omega))
                obtain ⟨u45, hu46⟩ : ∃ y, W 90 25 = y := ⟨_, rfl⟩
                replace f := f.trans (pf_let_eq hu46)
                first | (exfalso; omega) | exact ⟨_, V, W, e, f.trans (congrArg (fun z => (z, W)) (show u45 = u43 by omega)), hq0⟩ | (have g := s4 (by omega); exact ⟨_, V, W, e, f.trans (congrArg (fun z => (z, W)) (show u45 = u43 by omega)), hq0⟩) | (have g := hA (by omega); exact ⟨_, V, W, e, f.trans (congrArg (fun z => (z, W)) (show u45 = u43 by omega)), hq0⟩)
              · replace e := e.trans (if_neg c42)
                by_cases c47 : a1 = 4
                · replace e := e.trans (if_pos c47)
                  replace e := e.trans (if_neg (by omega))
                  obtain ⟨u48, hu49⟩ : ∃ y, V 63 0 = y := ⟨_, rfl⟩
                  replace e := e.trans (pf_let_eq hu49)
                  have f := F_X12_count_eq a1 W
                  replace f := f.trans (if_neg (by omega))
                  replace f := f.trans (if_neg (by omega))
                  replace f := f.trans (if_neg (by omega))
                  replace f := f.trans (if_neg (by omega))
                  replace f := f.trans (if_neg (by omega))
                  replace f := f.trans (if_pos (by omega))
                  obtain ⟨u50, hu51⟩ : ∃ y, W 90 35 = y := ⟨_, rfl⟩
                  replace f := f.trans (pf_let_eq hu51)
                  first | (exfalso; omega) | exact ⟨_, V, W, e, f.trans (congrArg (fun z => (z, W)) (show u50 = u48 by omega)), hq0⟩ | (have g := s4 (by omega); exact ⟨_, V, W, e, f.trans (congrArg (fun z => (z, W)) (show u50 = u48 by omega)), hq0⟩) | (have g := hA (by omega); exact ⟨_, V, W, e, f.trans (congrArg (fun z => (z, W)) (show u50 = u48 by omega)), hq0⟩)
                · replace e := e.trans (if_neg c47)
                  by_cases c52 : a1 = 5
                  · replace e := e.trans (if_pos c52)
                    by_cases c53 : (0 : Int) < W 90 16
                    · replace e := e.trans (pf_call_eq ((nf_hasScene (V := V) hs).1 c53))
                      replace e := e.trans (if_neg (by decide))
                      replace e := e.trans (if_pos (by omega))
                      obtain ⟨u55, hu56⟩ : ∃ y, V 45 8 = y := ⟨_, rfl⟩
                      replace e := e.trans (pf_let_eq hu56)
                      have f := F_X12_count_eq a1 W
                      replace f := f.trans (if_neg (by omega))
                      replace f := f.trans (if_neg (by omega))
                      replace f := f.trans (if_neg (by omega))
                      replace f := f.trans (if_neg (by omega))
                      replace f := f.trans (if_neg (by omega))
                      replace f := f.trans (if_neg (by omega))
                      replace f := f.trans (if_pos (by omega))
                      obtain ⟨u57, hu58⟩ : ∃ y, W 90 19 = y := ⟨_, rfl⟩
                      replace f := f.trans (pf_let_eq hu58)
                      first | (exfalso; omega) | exact ⟨_, V, W, e, f.trans (congrArg (fun z => (z, W)) (show u57 = u55 by omega)), hq0⟩ | (have g := s4 (by omega); exact ⟨_, V, W, e, f.trans (congrArg (fun z => (z, W)) (show u57 = u55 by omega)), hq0⟩) | (have g := hA (by omega); exact ⟨_, V, W, e, f.trans (congrArg (fun z => (z, W)) (show u57 = u55 by omega)), hq0⟩)
                    · replace e := e.trans (pf_call_eq ((nf_hasScene (V := V) hs).2 c53))
                      replace e := e.trans (if_pos (by decide))
                      have f := F_X12_count_eq a1 W
                      replace f := f.trans (if_neg (by omega))
                      replace f := f.trans (if_neg (by omega))
                      replace f := f.trans (if_neg (by omega))
                      replace f := f.trans (if_neg (by omega))
                      replace f := f.trans (if_neg (by omega))
                      replace f := f.trans (if_neg (by omega))
                      replace f := f.trans (if_pos (by omega))
                      obtain ⟨u59, hu60⟩ : ∃ y, W 90 19 = y := ⟨_, rfl⟩
                      replace f := f.trans (pf_let_eq hu60)
                      first | (exfalso; omega) | exact ⟨_, V, W, e, f.trans (congrArg (fun z => (z, W)) (show u59 = 0 by omega)), hq0⟩ | (have g := s4 (by omega); exact ⟨_, V, W, e, f.trans (congrArg (fun z => (z, W)) (show u59 = 0 by omega)), hq0⟩) | (have g := hA (by omega); exact ⟨_, V, W, e, f.trans (congrArg (fun z => (z, W)) (show u59 = 0 by omega)), hq0⟩)
                  · replace e := e.trans (if_neg c52)
                    by_cases c61 : a1 = 6
                    · replace e := e.trans (if_pos c61)
                      by_cases c62 : (0 : Int) < W 90 16
                      · replace e := e.trans (pf_call_eq ((nf_hasScene (V := V) hs).1 c62))
                        replace e := e.trans (if_neg (by decide))
                        replace e := e.trans (if_pos (by omega))
                        obtain ⟨u64, hu65⟩ : ∃ y, V 45 9 = y := ⟨_, rfl⟩
                        replace e := e.trans (pf_let_eq hu65)
                        have f := F_X12_count_eq a1 W
                        replace f := f.trans (if_neg (by omega))
                        replace f := f.trans (if_neg (by omega))
                        replace f := f.trans (if_neg (by omega))
                        replace f := f.trans (if_neg (by omega))
                        replace f := f.trans (if_neg (by omega))
                        replace f := f.trans (if_neg (by omega))
                        replace f := f.trans (if_neg (by omega))
                        replace f := f.trans (if_pos (by omega))
                        obtain ⟨u66, hu67⟩ : ∃ y, W 90 20 = y := ⟨_, rfl⟩
                        replace f := f.trans (pf_let_eq hu67)
                        first | (exfalso; omega) | exact ⟨_, V, W, e, f.trans (congrArg (fun z => (z, W)) (show u66 = u64 by omega)), hq0⟩ | (have g := s4 (by omega); exact ⟨_, V, W, e, f.trans (congrArg (fun z => (z, W)) (show u66 = u64 by omega)), hq0⟩) | (have g := hA (by omega); exact ⟨_, V, W, e, f.trans (congrArg (fun z => (z, W)) (show u66 = u64 by omega)), hq0⟩)
                      · replace e := e.trans (pf_call_eq ((nf_hasScene (V := V) hs).2 c62))
                        replace e := e.trans (if_pos (by decide))
                        have f := F_X12_count_eq a1 W
                        replace f := f.trans (if_neg (by omega))
                        replace f := f.trans (if_neg (by omega))
                        replace f := f.trans (if_neg (by omega))
                        replace f := f.trans (if_neg (by omega))
                        replace f := f.trans (if_neg (by omega))
                        replace f := f.trans (if_neg (by omega))
                        replace f := f.trans (if_neg (by omega))
                        replace f := f.trans (if_pos (by omega))
                        obtain ⟨u68, hu69⟩ : ∃ y, W 90 20 = y := ⟨_, rfl⟩
                        replace f := f.trans (pf_let_eq hu69)
                        first | (exfalso; omega) | exact ⟨_, V, W, e, f.trans (congrArg (fun z => (z, W)) (show u68 = 0 by omega)), hq0⟩ | (have g := s4 (by omega); exact ⟨_, V, W, e, f.trans (congrArg (fun z => (z, W)) (show u68 = 0 by omega)), hq0⟩) | (have g := hA (by omega); exact ⟨_, V, W, e, f.trans (congrArg (fun z => (z, W)) (show u68 = 0 by omega)), hq0⟩)
                    · replace e := e.trans (if_neg c61)
                      by_cases c70 : a1 = 7
                      · replace e := e.trans (if_pos c70)
                        obtain ⟨u71, hu72⟩ : ∃ y, V 1 1 = y := ⟨_, rfl⟩
                        replace e := e.trans (pf_let_eq hu72)
                        have f := F_X12_count_eq a1 W
                        replace f := f.trans (if_neg (by omega))
                        replace f := f.trans (if_neg (by omega))
                        replace f := f.trans (if_neg (by omega))
                        replace f := f.trans (if_neg (by omega))
                        replace f := f.trans (if_neg (by omega))
                        replace f := f.trans (if_neg (by omega))
                        replace f := f.trans (if_neg (by omega))
                        replace f := f.trans (if_neg (by omega))
                        replace f := f.trans (if_pos (by omega))
                        obtain ⟨u73, hu74⟩ : ∃ y, W 90 1 = y := ⟨_, rfl⟩
                        replace f := f.trans (pf_let_eq hu74)
                        first | (exfalso; omega) | exact ⟨_, V, W, e, f.trans (congrArg (fun z => (z, W)) (show u73 = u71 by omega)), hq0⟩ | (have g := s4 (by omega); exact ⟨_, V, W, e, f.trans (congrArg (fun z => (z, W)) (show u73 = u71 by omega)), hq0⟩) | (have g := hA (by omega); exact ⟨_, V, W, e, f.trans (congrArg (fun z => (z, W)) (show u73 = u71 by omega)), hq0⟩)
                      · replace e := e.trans (if_neg c70)
                        have f := F_X12_count_eq a1 W
                        by_cases c75 : a1 < 0 ∨ 7 < a1
                        · replace f := f.trans (if_pos c75)
                          first | (exfalso; omega) | exact ⟨_, V, W, e, f.trans (congrArg (fun z => (z, W)) (show (-1) = (0 : Int) by omega)), hq0⟩ | (have g := s4 (by omega); exact ⟨_, V, W, e, f.trans (congrArg (fun z => (z, W)) (show (-1) = (0 : Int) by omega)), hq0⟩) | (have g := hA (by omega); exact ⟨_, V, W, e, f.trans (congrArg (fun z => (z, W)) (show (-1) = (0 : Int) by omega)), hq0⟩)
                        · replace f := f.trans (if_neg c75)
                          by_cases c76 : a1 = 0
                          · replace f := f.trans (if_pos c76)
                            obtain ⟨u77, hu78⟩ : ∃ y, W 90 16 = y := ⟨_, rfl⟩
                            replace f := f.trans (pf_let_eq hu78)
                            first | (exfalso; omega) | exact ⟨_, V, W, e, f.trans (congrArg (fun z => (z, W)) (show u77 = (0 : Int) by omega)), hq0⟩ | (have g := s4 (by omega); exact ⟨_, V, W, e, f.trans (congrArg (fun z => (z, W)) (show u77 = (0 : Int) by omega)), hq0⟩) | (have g := hA (by omega); exact ⟨_, V, W, e, f.trans (congrArg (fun z => (z, W)) (show u77 = (0 : Int) by omega)), hq0⟩)
                          · replace f := f.trans (if_neg c76)
                            by_cases c79 : a1 = 1
                            · replace f := f.trans (if_pos c79)
                              obtain ⟨u80, hu81⟩ : ∃ y, W 90 21 = y := ⟨_, rfl⟩
                              replace f := f.trans (pf_let_eq hu81)
                              first | (exfalso; omega) | exact ⟨_, V, W, e, f.trans (congrArg (fun z => (z, W)) (show u80 = (0 : Int) by omega)), hq0⟩ | (have g := s4 (by omega); exact ⟨_, V, W, e, f.trans (congrArg (fun z => (z, W)) (show u80 = (0 : Int) by omega)), hq0⟩) | (have g := hA (by omega); exact ⟨_, V, W, e, f.trans (congrArg (fun z => (z, W)) (show u80 = (0 : Int) by omega)), hq0⟩)
                            · replace f := f.trans (if_neg c79)
                              by_cases c82 : a1 = 2
                              · replace f := f.trans (if_pos c82)
                                obtain ⟨u83, hu84⟩ : ∃ y, W 90 23 = y := ⟨_, rfl⟩
                                replace f := f.trans (pf_let_eq hu84)
                                first | (exfalso; omega) | exact ⟨_, V, W, e, f.trans (congrArg (fun z => (z, W)) (show u83 = (0 : Int) by omega)), hq0⟩ | (have g := s4 (by omega); exact ⟨_, V, W, e, f.trans (congrArg (fun z => (z, W)) (show u83 = (0 : Int) by omega)), hq0⟩) | (have g := hA (by omega); exact ⟨_, V, W, e, f.trans (congrArg (fun z => (z, W)) (show u83 = (0 : Int) by omega)), hq0⟩)
                              · replace f := f.trans (if_neg c82)
                                by_cases c85 : a1 = 3
                                · replace f := f.trans (if_pos c85)
                                  obtain ⟨u86, hu87⟩ : ∃ y, W 90 25 = y := ⟨_, rfl⟩
                                  replace f := f.trans (pf_let_eq hu87)
                                  first | (exfalso; omega) | exact ⟨_, V, W, e, f.trans (congrArg (fun z => (z, W)) (show u86 = (0 : Int) by omega)), hq0⟩ | (have g := s4 (by omega); exact ⟨_, V, W, e, f.trans (congrArg (fun z => (z, W)) (show u86 = (0 : Int) by omega)), hq0⟩) | (have g := hA (by omega); exact ⟨_, V, W, e, f.trans (congrArg (fun z => (z, W)) (show u86 = (0 : Int) by omega)), hq0⟩)
                                · replace f := f.trans (if_neg c85)
                                  by_cases c88 : a1 = 4
                                  · replace f := f.trans (if_pos c88)
                                    obtain ⟨u89, hu90⟩ : ∃ y, W 90 35 = y := ⟨_, rfl⟩
                                    replace f := f.trans (pf_let_eq hu90)
                                    first | (exfalso; omega) | exact ⟨_, V, W, e, f.trans (congrArg (fun z => (z, W)) (show u89 = (0 : Int) by omega)), hq0⟩ | (have g := s4 (by omega); exact ⟨_, V, W, e, f.trans (congrArg (fun z => (z, W)) (show u89 = (0 : Int) by omega)), hq0⟩) | (have g := hA (by omega); exact ⟨_, V, W, e, f.trans (congrArg (fun z => (z, W)) (show u89 = (0 : Int) by omega)), hq0⟩)
                                  · replace f := f.trans (if_neg c88)
                                    by_cases c91 : a1 = 5
                                    · replace f := f.trans (if_pos c91)
                                      obtain ⟨u92, hu93⟩ : ∃ y, W 90 19 = y := ⟨_, rfl⟩
                                      replace f := f.trans (pf_let_eq hu93)
                                      first | (exfalso; omega) | exact ⟨_, V, W, e, f.trans (congrArg (fun z => (z, W)) (show u92 = (0 : Int) by omega)), hq0⟩ | (have g := s4 (by omega); exact ⟨_, V, W, e, f.trans (congrArg (fun z => (z, W)) (show u92 = (0 : Int) by omega)), hq0⟩) | (have g := hA (by omega); exact ⟨_, V, W, e, f.trans (congrArg (fun z => (z, W)) (show u92 = (0 : Int) by omega)), hq0⟩)
                                    · replace f := f.trans (if_neg c91)
                                      by_cases c94 : a1 = 6
                                      · replace f := f.trans (if_pos c94)
                                        obtain ⟨u95, hu96⟩ : ∃ y, W 90 20 = y := ⟨_, rfl⟩
                                        replace f := f.trans (pf_let_eq hu96)
                                        first | (exfalso; omega) | exact ⟨_, V, W, e, f.trans (congrArg (fun z => (z, W)) (show u95 = (0 : Int) by omega)), hq0⟩ | (have g := s4 (by omega); exact ⟨_, V, W, e, f.trans (congrArg (fun z => (z, W)) (show u95 = (0 : Int) by omega)), hq0⟩) | (have g := hA (by omega); exact ⟨_, V, W, e, f.trans (congrArg (fun z => (z, W)) (show u95 = (0 : Int) by omega)), hq0⟩)
                                      · replace f := f.trans (if_neg c94)
                                        by_cases c97 : a1 = 7
                                        · replace f := f.trans (if_pos c97)
                                          obtain ⟨u98, hu99⟩ : ∃ y, W 90 1 = y := ⟨_, rfl⟩
                                          replace f := f.trans (pf_let_eq hu99)
                                          first | (exfalso; omega) | exact ⟨_, V, W, e, f.trans (congrArg (fun z => (z, W)) (show u98 = (0 : Int) by omega)), hq0⟩ | (have g := s4 (by omega); exact ⟨_, V, W, e, f.trans (congrArg (fun z => (z, W)) (show u98 = (0 : Int) by omega)), hq0⟩) | (have g := hA (by omega); exact ⟨_, V, W, e, f.trans (congrArg (fun z => (z, W)) (show u98 = (0 : Int) by omega)), hq0⟩)
                                        · replace f := f.trans (if_neg c97)
                                          first | (exfalso; omega) | exact ⟨_, V, W, e, f.trans (congrArg (fun z => (z, W)) (show (0 : Int) = (0 : Int) by omega)), hq0⟩ | (have g := s4 (by omega); exact ⟨_, V, W, e, f.trans (congrArg (fun z => (z, W)) (show (0 : Int) = (0 : Int) by omega)), hq0⟩) | (have g := hA (by omega); exact ⟨_, V, W, e, f.trans (congrArg (fun z => (z, W)) (show (0 : Int) = (0 : Int) by omega)), hq0⟩)
  · skip
    rw [show (V 0 8).toNat = 51 by omega] at h3
    obtain ⟨s0, s10, sj, s4, -⟩ := h3
    rcases h2 with ⟨h9, -⟩ | ⟨h9, -⟩
    · skip
      rw [show (V 0 10).toNat = 57 by omega] at h4
      have e := F_X11_count_eq a1 V
      by_cases c1 : a1 < 0 ∨ 7 < a1
      · replace e := e.trans (if_pos c1)
        have f := F_X12_count_eq a1 W
        by_cases c2 : a1 < 0 ∨ 7 < a1
        · replace f := f.trans (if_pos c2)
          exact ⟨(-1), V, W, e, f, hq0⟩
        · replace f := f.trans (if_neg c2)
          by_cases c3 : a1 = 0
          · replace f := f.trans (if_pos c3)
            obtain ⟨u4, hu5⟩ : ∃ y, W 90 16 = y := ⟨_, rfl⟩
            replace f := f.trans (pf_let_eq hu5)
            first | (exfalso; omega) | exact ⟨_, V, W, e, f.trans (congrArg (fun z => (z, W)) (show u4 = (-1) by omega)), hq0⟩ | (have g := s4 (by omega); exact ⟨_, V, W, e, f.trans (congrArg (fun z => (z, W)) (show u4 = (-1) by omega)), hq0⟩) | (have g := hA (by omega); exact ⟨_, V, W, e, f.trans (congrArg (fun z => (z, W)) (show u4 = (-1) by omega)), hq0⟩)
          · replace f := f.trans (if_neg c3)
            by_cases c6 : a1 = 1
            · replace f := f.trans (if_pos c6)
              obtain ⟨u7, hu8⟩ : ∃ y, W 90 21 = y := ⟨_, rfl⟩
              replace f := f.trans (pf_let_eq hu8)
              first | (exfalso; omega) | exact ⟨_, V, W, e, f.trans (congrArg (fun z => (z, W)) (show u7 = (-1) by omega)), hq0⟩ | (have g := s4 (by omega); exact ⟨_, V, W, e, f.trans (congrArg (fun z => (z, W)) (show u7 = (-1) by omega)), hq0⟩) | (have g := hA (by omega); exact ⟨_, V, W, e, f.trans (congrArg (fun z => (z, W)) (show u7 = (-1) by omega)), hq0⟩)
            · replace f := f.trans (if_neg c6)
              by_cases c9 : a1 = 2
              · replace f := f.trans (if_pos c9)
                obtain ⟨u10, hu11⟩ : ∃ y, W 90 23 = y := ⟨_, rfl⟩
                replace f := f.trans (pf_let_eq hu11)
                first | (exfalso; omega) | exact ⟨_, V, W, e, f.trans (congrArg (fun z => (z, W)) (show u10 = (-1) by omega)), hq0⟩ | (have g := s4 (by omega); exact ⟨_, V, W, e, f.trans (congrArg (fun z => (z, W)) (show u10 = (-1) by omega)), hq0⟩) | (have g := hA (by omega); exact ⟨_, V, W, e, f.trans (congrArg (fun z => (z, W)) (show u10 = (-1) by omega)), hq0⟩)
              · replace f := f.trans (if_neg c9)
                by_cases c12 : a1 = 3
                · replace f := f.trans (if_pos c12)
                  obtain ⟨u13, hu14⟩ : ∃ y, W 90 25 = y := ⟨_, rfl⟩
                  replace f := f.trans (pf_let_eq hu14)
                  first | (exfalso; omega) | exact ⟨_, V, W, e, f.trans (congrArg (fun z => (z, W)) (show u13 = (-1) by omega)), hq0⟩ | (have g := s4 (by omega); exact ⟨_, V, W, e, f.trans (congrArg (fun z => (z, W)) (show u13 = (-1) by omega)), hq0⟩) | (have g := hA (by omega); exact ⟨_, V, W, e, f.trans (congrArg (fun z => (z, W)) (show u13 = (-1) by omega)), hq0⟩)
                · replace f := f.trans (if_neg c12)
                  by_cases c15 : a1 = 4
                  · replace f := f.trans (if_pos c15)
                    obtain ⟨u16, hu17⟩ : ∃ y, W 90 35 = y := ⟨_, rfl⟩
                    replace f := f.trans (pf_let_eq hu17)
                    first | (exfalso; omega) | exact ⟨_, V, W, e, f.trans (congrArg (fun z => (z, W)) (show u16 = (-1) by omega)), hq0⟩ | (have g := s4 (by omega); exact ⟨_, V, W, e, f.trans (congrArg (fun z => (z, W)) (show u16 = (-1) by omega)), hq0⟩) | (have g := hA (by omega); exact ⟨_, V, W, e, f.trans (congrArg (fun z => (z, W)) (show u16 = (-1) by omega)), hq0⟩)
                  · replace f := f.trans (if_neg c15)
                    by_cases c18 : a1 = 5
                    · replace f := f.trans (if_pos c18)
                      obtain ⟨u19, hu20⟩ : ∃ y, W 90 19 = y := ⟨_, rfl⟩
                      replace f := f.trans (pf_let_eq hu20)
                      first | (exfalso; omega) | exact ⟨_, V, W, e, f.trans (congrArg (fun z => (z, W)) (show u19 = (-1) by omega)), hq0⟩ | (have g := s4 (by omega); exact ⟨_, V, W, e, f.trans (congrArg (fun z => (z, W)) (show u19 = (-1) by omega)), hq0⟩) | (have g := hA (by omega); exact ⟨_, V, W, e, f.trans (congrArg (fun z => (z, W)) (show u19 = (-1) by omega)), hq0⟩)
                    · replace f := f.trans (if_neg c18)
                      by_cases c21 : a1 = 6
                      · replace f := f.trans (if_pos c21)
                        obtain ⟨u22, hu23⟩ : ∃ y, W 90 20 = y := ⟨_, rfl⟩
                        replace f := f.trans (pf_let_eq hu23)
                        first | (exfalso; omega) | exact ⟨_, V, W, e, f.trans (congrArg (fun z => (z, W)) (show u22 = (-1) by omega)), hq0⟩ | (have g := s4 (by omega); exact ⟨_, V, W, e, f.trans (congrArg (fun z => (z, W)) (show u22 = (-1) by omega)), hq0⟩) | (have g := hA (by omega); exact ⟨_, V, W, e, f.trans (congrArg (fun z => (z, W)) (show u22 = (-1) by omega)), hq0⟩)
                      · replace f := f.trans (if_neg c21)
                        by_cases c24 : a1 = 7
                        · replace f := f.trans (if_pos c24)
                          obtain ⟨u25, hu26⟩ : ∃ y, W 90 1 = y := ⟨_, rfl⟩
                          replace f := f.trans (pf_let_eq hu26)
                          first | (exfalso; omega) | exact ⟨_, V, W, e, f.trans (congrArg (fun z => (z, W)) (show u25 = (-1) by omega)), hq0⟩ | (have g := s4 (by omega); exact ⟨_, V, W, e, f.trans (congrArg (fun z => (z, W)) (show u25 = (-1) by omega)), hq0⟩) | (have g := hA (by omega); exact ⟨_, V, W, e, f.trans (congrArg (fun z => (z, W)) (show u25 = (-1) by omega)), hq0⟩)
                        · replace f := f.trans (if_neg c24)
                          first | (exfalso; omega) | exact ⟨_, V, W, e, f.trans (congrArg (fun z => (z, W)) (show (0 : Int) = (-1) by omega)), hq0⟩ | (have g := s4 (by omega); exact ⟨_, V, W, e, f.trans (congrArg (fun z => (z, W)) (show (0 : Int) = (-1) by omega)), hq0⟩) | (have g := hA (by omega); exact ⟨_, V, W, e, f.trans (congrArg (fun z => (z, W)) (show (0 : Int) = (-1) by omega)), hq0⟩)
      · replace e := e.trans (if_neg c1)
        by_cases c27 : a1 = 0
        · replace e := e.trans (if_pos c27)
          replace e := e.trans (if_neg (by omega))
          obtain ⟨u28, hu29⟩ : ∃ y, V 51 0 = y := ⟨_, rfl⟩
          replace e := e.trans (pf_let_eq hu29)
          have f := F_X12_count_eq a1 W
          replace f := f.trans (if_neg (by omega))
          replace f := f.trans (if_pos (by omega))
          obtain ⟨u30, hu31⟩ : ∃ y, W 90 16 = y := ⟨_, rfl⟩
          replace f := f.trans (pf_let_eq hu31)
          first | (exfalso; omega) | exact ⟨_, V, W, e, f.trans (congrArg (fun z => (z, W)) (show u30 = u28 by omega)), hq0⟩ | (have g := s4 (by omega); exact ⟨_, V, W, e, f.trans (congrArg (fun z => (z, W)) (show u30 = u28 by omega)), hq0⟩) | (have g := hA (by omega); exact ⟨_, V, W, e, f.trans (congrArg (fun z => (z, W)) (show u30 = u28 by omega)), hq0⟩)
        · replace e := e.trans (if_neg c27)
          by_cases c32 : a1 = 1
          · replace e := e.trans (if_pos c32)
            replace e := e.trans (if_neg (by omega))
            obtain ⟨u33, hu34⟩ : ∃ y, V 51 10 = y := ⟨_, rfl⟩
            replace e := e.trans (pf_let_eq hu34)
            have f := F_X12_count_eq a1 W
            replace f := f.trans (if_neg (by omega))
            replace f := f.trans (if_neg (by omega))
            replace f := f.trans (if_pos (by omega))
            obtain ⟨u35, hu36⟩ : ∃ y, W 90 21 = y := ⟨_, rfl⟩
            replace f := f.trans (pf_let_eq hu36)
            first | (exfalso; omega) | exact ⟨_, V, W, e, f.trans (congrArg (fun z => (z, W)) (show u35 = u33 by omega)), hq0⟩ | (have g := s4 (by omega); exact ⟨_, V, W, e, f.trans (congrArg (fun z => (z, W)) (show u35 = u33 by omega)), hq0⟩) | (have g := hA (by omega); exact ⟨_, V, W, e, f.trans (congrArg (fun z => (z, W)) (show u35 = u33 by omega)), hq0⟩)
          · replace e := e.trans (if_neg c32)
            by_cases c37 : a1 = 2
            · replace e := e.trans (if_pos c37)
              obtain ⟨u38, hu39⟩ : ∃ y, V 4 1 = y := ⟨_, rfl⟩
              replace e := e.trans (pf_let_eq hu39)
              have f := F_X12_count_eq a1 W
              replace f := f.trans (if_neg (by omega))
              replace f := f.trans (if_neg (by omega))
              replace f := f.trans (if_neg (by omega))
              replace f := f.trans (if_pos (by omega))
              obtain ⟨u40, hu41⟩ : ∃ y, W 90 23 = y := ⟨_, rfl⟩
              replace f := f.trans (pf_let_eq hu41)
              first | (exfalso; omega) | exact ⟨_, V, W, e, f.trans (congrArg (fun z => (z, W)) (show u40 = u38 by omega)), hq0⟩ | (have g := s4 (by omega); exact ⟨_, V, W, e, f.trans (congrArg (fun z => (z, W)) (show u40 = u38 by omega)), hq0⟩) | (have g := hA (by omega); exact ⟨_, V, W, e, f.trans (congrArg (fun z => (z, W)) (show u40 = u38 by omega)), hq0⟩)
            · replace e := e.trans (if_neg c37)
              by_cases c42 : a1 = 3
              · replace e := e.trans (if_pos c42)
                obtain ⟨u43, hu44⟩ : ∃ y, V 4 6 = y := ⟨_, rfl⟩
                replace e := e.trans (pf_let_eq hu44)
                have f := F_X12_count_eq a1 W
                replace f := f.trans (if_neg (by omega))
                replace f := f.trans (if_neg (by omega))
                replace f := f.trans (if_neg (by omega))
                replace f := f.trans (if_neg (by omega))
                replace f := f.trans (if_pos (by omega))
                obtain ⟨u45, hu46⟩ : ∃ y, W 90 25 = y := ⟨_, rfl⟩
                replace f := f.trans (pf_let_eq hu46)
                first | (exfalso; omega) | exact ⟨_, V, W, e, f.trans (congrArg (fun z => (z, W)) (show u45 = u43 by omega)), hq0⟩ | (have g := s4 (by omega); exact ⟨_, V, W, e, f.trans (congrArg (fun z => (z, W)) (show u45 = u43 by omega)), hq0⟩) | (have g := hA (by omega); exact ⟨_, V, W, e, f.trans (congrArg (fun z => (z, W)) (show u45 = u43 by omega)), hq0⟩)
              · replace e := e.trans (if_neg c42)
                by_cases c47 : a1 = 4
                · replace e := e.trans (if_pos c47)
                  replace e := e.trans (if_pos (by omega))
                  obtain ⟨u48, hu49⟩ : ∃ y, V 57 0 = y := ⟨_, rfl⟩
                  replace e := e.trans (pf_let_eq hu49)
                  have f := F_X12_count_eq a1 W
                  replace f := f.trans (if_neg (by omega))
                  replace f := f.trans (if_neg (by omega))
                  replace f := f.trans (if_neg (by omega))
                  replace f := f.trans (if_neg (by omega))
                  replace f := f.trans (if_neg (by omega))
                  replace f := f.trans (if_pos (by omega))
                  obtain ⟨u50, hu51⟩ : ∃ y, W 90 35 = y := ⟨_, rfl⟩
                  replace f := f.trans (pf_let_eq hu51)
                  first | (exfalso; omega) | exact ⟨_, V, W, e, f.trans (congrArg (fun z => (z, W)) (show u50 = u48 by omega)), hq0⟩ | (have g := s4 (by omega); exact ⟨_, V, W, e, f.trans (congrArg (fun z => (z, W)) (show u50 = u48 by omega)), hq0⟩) | (have g := hA (by omega); exact ⟨_, V, W, e, f.trans (congrArg (fun z => (z, W)) (show u50 = u48 by omega)), hq0⟩)
                · replace e := e.trans (if_neg c47)
                  by_cases c52 : a1 = 5
                  · replace e := e.trans (if_pos c52)
                    by_cases c53 : (0 : Int) < W 90 16
                    · replace e := e.trans (pf_call_eq ((nf_hasScene (V := V) hs).1 c53))
                      replace e := e.trans (if_neg (by decide))
                      replace e := e.trans (if_neg (by omega))
                      obtain ⟨u55, hu56⟩ : ∃ y, V 51 8 = y := ⟨_, rfl⟩
                      replace e := e.trans (pf_let_eq hu56)
                      have f := F_X12_count_eq a1 W
                      replace f := f.trans (if_neg (by omega))
                      replace f := f.trans (if_neg (by omega))
                      replace f := f.trans (if_neg (by omega))
                      replace f := f.trans (if_neg (by omega))
                      replace f := f.trans (if_neg (by omega))
                      replace f := f.trans (if_neg (by omega))
                      replace f := f.trans (if_pos (by omega))
                      obtain ⟨u57, hu58⟩ : ∃ y, W 90 19 = y := ⟨_, rfl⟩
                      replace f := f.trans (pf_let_eq hu58)
                      first | (exfalso; omega) | exact ⟨_, V, W, e, f.trans (congrArg (fun z => (z, W)) (show u57 = u55 by omega)), hq0⟩ | (have g := s4 (by omega); exact ⟨_, V, W, e, f.trans (congrArg (fun z => (z, W)) (show u57 = u55 by omega)), hq0⟩) | (have g := hA (by omega); exact ⟨_, V, W, e, f.trans (congrArg (fun z => (z, W)) (show u57 = u55 by omega)), hq0⟩)
                    · replace e := e.trans (pf_call_eq ((nf_hasScene (V := V) hs).2 c53))
                      replace e := e.trans (if_pos (by decide))
                      have f := F_X12_count_eq a1 W
                      replace f := f.trans (if_neg (by omega))
                      replace f := f.trans (if_neg (by omega))
                      replace f := f.trans (if_neg (by omega))
                      replace f := f.trans (if_neg (by omega))
                      replace f := f.trans (if_neg (by omega))
                      replace f := f.trans (if_neg (by omega))
                      replace f := f.trans (if_pos (by omega))
                      obtain ⟨u59, hu60⟩ : ∃ y, W 90 19 = y := ⟨_, rfl⟩
                      replace f := f.trans (pf_let_eq hu60)
                      first | (exfalso; omega) | exact ⟨_, V, W, e, f.trans (congrArg (fun z => (z, W)) (show u59 = 0 by omega)), hq0⟩ | (have g := s4 (by omega); exact ⟨_, V, W, e, f.trans (congrArg (fun z => (z, W)) (show u59 = 0 by omega)), hq0⟩) | (have g := hA (by omega); exact ⟨_, V, W, e, f.trans (congrArg (fun z => (z, W)) (show u59 = 0 by omega)), hq0⟩)
                  · replace e := e.trans (if_neg c52)
                    by_cases c61 : a1 = 6
                    · replace e := e.trans (if_pos c61)
                      by_cases c62 : (0 : Int) < W 90 16
                      · replace e := e.trans (pf_call_eq ((nf_hasScene (V := V) hs).1 c62))
                        replace e := e.trans (if_neg (by decide))
                        replace e := e.trans (if_neg (by omega))
                        obtain ⟨u64, hu65⟩ : ∃ y, V 51 9 = y := ⟨_, rfl⟩
                        replace e := e.trans (pf_let_eq hu65)
                        have f := F_X12_count_eq a1 W
                        replace f := f.trans (if_neg (by omega))
                        replace f := f.trans (if_neg (by omega))
                        replace f := f.trans (if_neg (by omega))
                        replace f := f.trans (if_neg (by omega))
                        replace f := f.trans (if_neg (by omega))
                        replace f := f.trans (if_neg (by omega))
                        replace f := f.trans (if_neg (by omega))
                        replace f := f.trans (if_pos (by omega))
                        obtain ⟨u66, hu67⟩ : ∃ y, W 90 20 = y := ⟨_, rfl⟩
                        replace f := f.trans (pf_let_eq hu67)
                        first | (exfalso; omega) | exact ⟨_, V, W, e, f.trans (congrArg (fun z => (z, W)) (show u66 = u64 by omega)), hq0⟩ | (have g := s4 (by omega); exact ⟨_, V, W, e, f.trans (congrArg (fun z => (z, W)) (show u66 = u64 by omega)), hq0⟩) | (have g := hA (by omega); exact ⟨_, V, W, e, f.trans (congrArg (fun z => (z, W)) (show u66 = u64 by omega)), hq0⟩)
                      · replace e := e.trans (pf_call_eq ((nf_hasScene (V := V) hs).2 c62))
                        replace e := e.trans (if_pos (by decide))
                        have f := F_X12_count_eq a1 W
                        replace f := f.trans (if_neg (by omega))
                        replace f := f.trans (if_neg (by omega))
                        replace f := f.trans (if_neg (by omega))
                        replace f := f.trans (if_neg (by omega))
                        replace f := f.trans (if_neg (by omega))
                        replace f := f.trans (if_neg (by omega))
                        replace f := f.trans (if_neg (by omega))
                        replace f := f.trans (if_pos (by omega))
                        obtain ⟨u68, hu69⟩ : ∃ y, W 90 20 = y := ⟨_, rfl⟩
                        replace f := f.trans (pf_let_eq hu69)
                        first | (exfalso; omega) | exact ⟨_, V, W, e, f.trans (congrArg (fun z => (z, W)) (show u68 = 0 by omega)), hq0⟩ | (have g := s4 (by omega); exact ⟨_, V, W, e, f.trans (congrArg (fun z => (z, W)) (show u68 = 0 by omega)), hq0⟩) | (have g := hA (by omega); exact ⟨_, V, W, e, f.trans (congrArg (fun z => (z, W)) (show u68 = 0 by omega)), hq0⟩)
                    · replace e := e.trans (if_neg c61)
                      by_cases c70 : a1 = 7
                      · replace e := e.trans (if_pos c70)
                        obtain ⟨u71, hu72⟩ : ∃ y, V 1 1 = y := ⟨_, rfl⟩
                        replace e := e.trans (pf_let_eq hu72)
                        have f := F_X12_count_eq a1 W
                        replace f := f.trans (if_neg (by omega))
                        replace f := f.trans (if_neg (by omega))
                        replace f := f.trans (if_neg (by omega))
                        replace f := f.trans (if_neg (by omega))
                        replace f := f.trans (if_neg (by omega))
                        replace f := f.trans (if_neg (by omega))
                        replace f := f.trans (if_neg (by omega))
                        replace f := f.trans (if_neg (by omega))
                        replace f := f.trans (if_pos (by omega))
                        obtain ⟨u73, hu74⟩ : ∃ y, W 90 1 = y := ⟨_, rfl⟩
                        replace f := f.trans (pf_let_eq hu74)
                        first | (exfalso; omega) | exact ⟨_, V, W, e, f.trans (congrArg (fun z => (z, W)) (show u73 = u71 by omega)), hq0⟩ | (have g := s4 (by omega); exact ⟨_, V, W, e, f.trans (congrArg (fun z => (z, W)) (show u73 = u71 by omega)), hq0⟩) | (have g := hA (by omega); exact ⟨_, V, W, e, f.trans (congrArg (fun z => (z, W)) (show u73 = u71 by omega)), hq0⟩)
                      · replace e := e.trans (if_neg c70)
                        have f := F_X12_count_eq a1 W
                        by_cases c75 : a1 < 0 ∨ 7 < a1
                        · replace f := f.trans (if_pos c75)
                          first | (exfalso; omega) | exact ⟨_, V, W, e, f.trans (congrArg (fun z => (z, W)) (show (-1) = (0 : Int) by omega)), hq0⟩ | (have g := s4 (by omega); exact ⟨_, V, W, e, f.trans (congrArg (fun z => (z, W)) (show (-1) = (0 : Int) by omega)), hq0⟩) | (have g := hA (by omega); exact ⟨_, V, W, e, f.trans (congrArg (fun z => (z, W)) (show (-1) = (0 : Int) by omega)), hq0⟩)
                        · replace f := f.trans (if_neg c75)
                          by_cases c76 : a1 = 0
                          · replace f := f.trans (if_pos c76)
                            obtain ⟨u77, hu78⟩ : ∃ y, W 90 16 = y := ⟨_, rfl⟩
                            replace f := f.trans (pf_let_eq hu78)
                            first | (exfalso; omega) | exact ⟨_, V, W, e, f.trans (congrArg (fun z => (z, W)) (show u77 = (0 : Int) by omega)), hq0⟩ | (have g := s4 (by omega); exact ⟨_, V, W, e, f.trans (congrArg (fun z => (z, W)) (show u77 = (0 : Int) by omega)), hq0⟩) | (have g := hA (by omega); exact ⟨_, V, W, e, f.trans (congrArg (fun z => (z, W)) (show u77 = (0 : Int) by omega)), hq0⟩)
                          · replace f := f.trans (if_neg c76)
                            by_cases c79 : a1 = 1
                            · replace f := f.trans (if_pos c79)
                              obtain ⟨u80, hu81⟩ : ∃ y, W 90 21 = y := ⟨_, rfl⟩
                              replace f := f.trans (pf_let_eq hu81)
                              first | (exfalso; omega) | exact ⟨_, V, W, e, f.trans (congrArg (fun z => (z, W)) (show u80 = (0 : Int) by omega)), hq0⟩ | (have g := s4 (by omega); exact ⟨_, V, W, e, f.trans (congrArg (fun z => (z, W)) (show u80 = (0 : Int) by omega)), hq0⟩) | (have g := hA (by omega); exact ⟨_, V, W, e, f.trans (congrArg (fun z => (z, W)) (show u80 = (0 : Int) by omega)), hq0⟩)
                            · replace f := f.trans (if_neg c79)
                              by_cases c82 : a1 = 2
                              · replace f := f.trans (if_pos c82)
                                obtain ⟨u83, hu84⟩ : ∃ y, W 90 23 = y := ⟨_, rfl⟩
                                replace f := f.trans (pf_let_eq hu84)
                                first | (exfalso; omega) | exact ⟨_, V, W, e, f.trans (congrArg (fun z => (z, W)) (show u83 = (0 : Int) by omega)), hq0⟩ | (have g := s4 (by omega); exact ⟨_, V, W, e, f.trans (congrArg (fun z => (z, W)) (show u83 = (0 : Int) by omega)), hq0⟩) | (have g := hA (by omega); exact ⟨_, V, W, e, f.trans (congrArg (fun z => (z, W)) (show u83 = (0 : Int) by omega)), hq0⟩)
                              · replace f := f.trans (if_neg c82)
                                by_cases c85 : a1 = 3
                                · replace f := f.trans (if_pos c85)
                                  obtain ⟨u86, hu87⟩ : ∃ y, W 90 25 = y := ⟨_, rfl⟩
                                  replace f := f.trans (pf_let_eq hu87)
                                  first | (exfalso; omega) | exact ⟨_, V, W, e, f.trans (congrArg (fun z => (z, W)) (show u86 = (0 : Int) by omega)), hq0⟩ | (have g := s4 (by omega); exact ⟨_, V, W, e, f.trans (congrArg (fun z => (z, W)) (show u86 = (0 : Int) by omega)), hq0⟩) | (have g := hA (by omega); exact ⟨_, V, W, e, f.trans (congrArg (fun z => (z, W)) (show u86 = (0 : Int) by omega)), hq0⟩)
                                · replace f := f.trans (if_neg c85)
                                  by_cases c88 : a1 = 4
                                  · replace f := f.trans (if_pos c88)
                                    obtain ⟨u89, hu90⟩ : ∃ y, W 90 35 = y := ⟨_, rfl⟩
                                    replace f := f.trans (pf_let_eq hu90)
                                    first | (exfalso; omega) | exact ⟨_, V, W, e, f.trans (congrArg (fun z => (z, W)) (show u89 = (0 : Int) by omega)), hq0⟩ | (have g := s4 (by omega); exact ⟨_, V, W, e, f.trans (congrArg (fun z => (z, W)) (show u89 = (0 : Int) by omega)), hq0⟩) | (have g := hA (by omega); exact ⟨_, V, W, e, f.trans (congrArg (fun z => (z, W)) (show u89 = (0 : Int) by omega)), hq0⟩)
                                  · replace f := f.trans (if_neg c88)
                                    by_cases c91 : a1 = 5
                                    · replace f := f.trans (if_pos c91)
                                      obtain ⟨u92, hu93⟩ : ∃ y, W 90 19 = y := ⟨_, rfl⟩
                                      replace f := f.trans (pf_let_eq hu93)
                                      first | (exfalso; omega) | exact ⟨_, V, W, e, f.trans (congrArg (fun z => (z, W)) (show u92 = (0 : Int) by omega)), hq0⟩ | (have g := s4 (by omega); exact ⟨_, V, W, e, f.trans (congrArg (fun z => (z, W)) (show u92 = (0 : Int) by omega)), hq0⟩) | (have g := hA (by omega); exact ⟨_, V, W, e, f.trans (congrArg (fun z => (z, W)) (show u92 = (0 : Int) by omega)), hq0⟩)
                                    · replace f := f.trans (if_neg c91)
                                      by_cases c94 : a1 = 6
                                      · replace f := f.trans (if_pos c94)
                                        obtain ⟨u95, hu96⟩ : ∃ y, W 90 20 = y := ⟨_, rfl⟩
                                        replace f := f.trans (pf_let_eq hu96)
                                        first | (exfalso; omega) | exact ⟨_, V, W, e, f.trans (congrArg (fun z => (z, W)) (show u95 = (0 : Int) by omega)), hq0⟩ | (have g := s4 (by omega); exact ⟨_, V, W, e, f.trans (congrArg (fun z => (z, W)) (show u95 = (0 : Int) by omega)), hq0⟩) | (have g := hA (by omega); exact ⟨_, V, W, e, f.trans (congrArg (fun z => (z, W)) (show u95 = (0 : Int) by omega)), hq0⟩)
                                      · replace f := f.trans (if_neg c94)
                                        by_cases c97 : a1 = 7
                                        · replace f := f.trans (if_pos c97)
                                          obtain ⟨u98, hu99⟩ : ∃ y, W 90 1 = y := ⟨_, rfl⟩
                                          replace f := f.trans (pf_let_eq hu99)
                                          first | (exfalso; omega) | exact ⟨_, V, W, e, f.trans (congrArg (fun z => (z, W)) (show u98 = (0 : Int) by omega)), hq0⟩ | (have g := s4 (by omega); exact ⟨_, V, W, e, f.trans (congrArg (fun z => (z, W)) (show u98 = (0 : Int) by omega)), hq0⟩) | (have g := hA (by omega); exact ⟨_, V, W, e, f.trans (congrArg (fun z => (z, W)) (show u98 = (0 : Int) by omega)), hq0⟩)
                                        · replace f := f.trans (if_neg c97)
                                          first | (exfalso; omega) | exact ⟨_, V, W, e, f.trans (congrArg (fun z => (z, W)) (show (0 : Int) = (0 : Int) by omega)), hq0⟩ | (have g := s4 (by omega); exact ⟨_, V, W, e, f.trans (congrArg (fun z => (z, W)) (show (0 : Int) = (0 : Int) by omega)), hq0⟩) | (have g := hA (by omega); exact ⟨_, V, W, e, f.trans (congrArg (fun z => (z, W)) (show (0 : Int) = (0 : Int) by omega)), hq0⟩)
    · skip
      rw [show (V 0 10).toNat = 63 by omega] at h4
      have e := F_X11_count_eq a1 V
      by_cases c1 : a1 < 0 ∨ 7 < a1
      · replace e := e.trans (if_pos c1)
        have f := F_X12_count_eq a1 W
        by_cases c2 : a1 < 0 ∨ 7 < a1
        · replace f := f.trans (if_pos c2)
          exact ⟨(-1), V, W, e, f, hq0⟩
        · replace f := f.trans (if_neg c2)
          by_cases c3 : a1 = 0
          · replace f := f.trans (if_pos c3)
            obtain ⟨u4, hu5⟩ : ∃ y, W 90 16 = y := ⟨_, rfl⟩
            replace f := f.trans (pf_let_eq hu5)
            first | (exfalso; omega) | exact ⟨_, V, W, e, f.trans (congrArg (fun z => (z, W)) (show u4 = (-1) by omega)), hq0⟩ | (have g := s4 (by omega); exact ⟨_, V, W, e, f.trans (congrArg (fun z => (z, W)) (show u4 = (-1) by omega)), hq0⟩) | (have g := hA (by omega); exact ⟨_, V, W, e, f.trans (congrArg (fun z => (z, W)) (show u4 = (-1) by omega)), hq0⟩)
          · replace f := f.trans (if_neg c3)
            by_cases c6 : a1 = 1
            · replace f := f.trans (if_pos c6)
              obtain ⟨u7, hu8⟩ : ∃ y, W 90 21 = y := ⟨_, rfl⟩
              replace f := f.trans (pf_let_eq hu8)
              first | (exfalso; omega) | exact ⟨_, V, W, e, f.trans (congrArg (fun z => (z, W)) (show u7 = (-1) by omega)), hq0⟩ | (have g := s4 (by omega); exact ⟨_, V, W, e, f.trans (congrArg (fun z => (z, W)) (show u7 = (-1) by omega)), hq0⟩) | (have g := hA (by omega); exact ⟨_, V, W, e, f.trans (congrArg (fun z => (z, W)) (show u7 = (-1) by omega)), hq0⟩)
            · replace f := f.trans (if_neg c6)
              by_cases c9 : a1 = 2
              · replace f := f.trans (if_pos c9)
                obtain ⟨u10, hu11⟩ : ∃ y, W 90 23 = y := ⟨_, rfl⟩
                replace f := f.trans (pf_let_eq hu11)
                first | (exfalso; omega) | exact ⟨_, V, W, e, f.trans (congrArg (fun z => (z, W)) (show u10 = (-1) by omega)), hq0⟩ | (have g := s4 (by omega); exact ⟨_, V, W, e, f.trans (congrArg (fun z => (z, W)) (show u10 = (-1) by omega)), hq0⟩) | (have g := hA (by omega); exact ⟨_, V, W, e, f.trans (congrArg (fun z => (z, W)) (show u10 = (-1) by omega)), hq0⟩)
              · replace f := f.trans (if_neg c9)
                by_cases c12 : a1 = 3
                · replace f := f.trans (if_pos c12)
                  obtain ⟨u13, hu14⟩ : ∃ y, W 90 25 = y := ⟨_, rfl⟩
                  replace f := f.trans (pf_let_eq hu14)
                  first | (exfalso; omega) | exact ⟨_, V, W, e, f.trans (congrArg (fun z => (z, W)) (show u13 = (-1) by omega)), hq0⟩ | (have g := s4 (by omega); exact ⟨_, V, W, e, f.trans (congrArg (fun z => (z, W)) (show u13 = (-1) by omega)), hq0⟩) | (have g := hA (by omega); exact ⟨_, V, W, e, f.trans (congrArg (fun z => (z, W)) (show u13 = (-1) by omega)), hq0⟩)
                · replace f := f.trans (if_neg c12)
                  by_cases c15 : a1 = 4
                  · replace f := f.trans (if_pos c15)
                    obtain ⟨u16, hu17⟩ : ∃ y, W 90 35 = y := ⟨_, rfl⟩
                    replace f := f.trans (pf_let_eq hu17)
                    first | (exfalso; omega) | exact ⟨_, V, W, e, f.trans (congrArg (fun z => (z, W)) (show u16 = (-1) by omega)), hq0⟩ | (have g := s4 (by omega); exact ⟨_, V, W, e, f.trans (congrArg (fun z => (z, W)) (show u16 = (-1) by omega)), hq0⟩) | (have g := hA (by omega); exact ⟨_, V, W, e, f.trans (congrArg (fun z => (z, W)) (show u16 = (-1) by omega)), hq0⟩)
                  · replace f := f.trans (if_neg c15)
                    by_cases c18 : a1 = 5
                    · replace f := f.trans (if_pos c18)
                      obtain ⟨u19, hu20⟩ : ∃ y, W 90 19 = y := ⟨_, rfl⟩
                      replace f := f.trans (pf_let_eq hu20)
                      first | (exfalso; omega) | exact ⟨_, V, W, e, f.trans (congrArg (fun z => (z, W)) (show u19 = (-1) by omega)), hq0⟩ | (have g := s4 (by omega); exact ⟨_, V, W, e, f.trans (congrArg (fun z => (z, W)) (show u19 = (-1) by omega)), hq0⟩) | (have g := hA (by omega); exact ⟨_, V, W, e, f.trans (congrArg (fun z => (z, W)) (show u19 = (-1) by omega)), hq0⟩)
                    · replace f := f.trans (if_neg c18)
                      by_cases c21 : a1 = 6
                      · replace f := f.trans (if_pos c21)
                        obtain ⟨u22, hu23⟩ : ∃ y, W 90 20 = y := ⟨_, rfl⟩
                        replace f := f.trans (pf_let_eq hu23)
                        first | (exfalso; omega) | exact ⟨_, V, W, e, f.trans (congrArg (fun z => (z, W)) (show u22 = (-1) by omega)), hq0⟩ | (have g := s4 (by omega); exact ⟨_, V, W, e, f.trans (congrArg (fun z => (z, W)) (show u22 = (-1) by omega)), hq0⟩) | (have g := hA (by omega); exact ⟨_, V, W, e, f.trans (congrArg (fun z => (z, W)) (show u22 = (-1) by omega)), hq0⟩)
                      · replace f := f.trans (if_neg c21)
                        by_cases c24 : a1 = 7
                        · replace f := f.trans (if_pos c24)
                          obtain ⟨u25, hu26⟩ : ∃ y, W 90 1 = y := ⟨_, rfl⟩
                          replace f := f.trans (pf_let_eq hu26)
                          first | (exfalso; omega) | exact ⟨_, V, W, e, f.trans (congrArg (fun z => (z, W)) (show u25 = (-1) by omega)), hq0⟩ | (have g := s4 (by omega); exact ⟨_, V, W, e, f.trans (congrArg (fun z => (z, W)) (show u25 = (-1) by omega)), hq0⟩) | (have g := hA (by omega); exact ⟨_, V, W, e, f.trans (congrArg (fun z => (z, W)) (show u25 = (-1) by omega)), hq0⟩)
                        · replace f := f.trans (if_neg c24)
                          first | (exfalso; omega) | exact ⟨_, V, W, e, f.trans (congrArg (fun z => (z, W)) (show (0 : Int) = (-1) by omega)), hq0⟩ | (have g := s4 (by omega); exact ⟨_, V, W, e, f.trans (congrArg (fun z => (z, W)) (show (0 : Int) = (-1) by omega)), hq0⟩) | (have g := hA (by omega); exact ⟨_, V, W, e, f.trans (congrArg (fun z => (z, W)) (show (0 : Int) = (-1) by omega)), hq0⟩)
      · replace e := e.trans (if_neg c1)
        by_cases c27 : a1 = 0
        · replace e := e.trans (if_pos c27)
          replace e := e.trans (if_neg (by omega))
          obtain ⟨u28, hu29⟩ : ∃ y, V 51 0 = y := ⟨_, rfl⟩
          replace e := e.trans (pf_let_eq hu29)
          have f := F_X12_count_eq a1 W
          replace f := f.trans (if_neg (by omega))
          replace f := f.trans (if_pos (by omega))
          obtain ⟨u30, hu31⟩ : ∃ y, W 90 16 = y := ⟨_, rfl⟩
          replace f := f.trans (pf_let_eq hu31)
          first | (exfalso; omega) | exact ⟨_, V, W, e, f.trans (congrArg (fun z => (z, W)) (show u30 = u28 by omega)), hq0⟩ | (have g := s4 (by omega); exact ⟨_, V, W, e, f.trans (congrArg (fun z => (z, W)) (show u30 = u28 by omega)), hq0⟩) | (have g := hA (by omega); exact ⟨_, V, W, e, f.trans (congrArg (fun z => (z, W)) (show u30 = u28 by omega)), hq0⟩)
        · replace e := e.trans (if_neg c27)
          by_cases c32 : a1 = 1
          · replace e := e.trans (if_pos c32)
            replace e := e.trans (if_neg (by omega))
            obtain ⟨u33, hu34⟩ : ∃ y, V 51 10 = y := ⟨_, rfl⟩
            replace e := e.trans (pf_let_eq hu34)
            have f := F_X12_count_eq a1 W
            replace f := f.trans (if_neg (by omega))
            replace f := f.trans (if_neg (by omega))
            replace f := f.trans (if_pos (by omega))
            obtain ⟨u35, hu36⟩ : ∃ y, W 90 21 = y := ⟨_, rfl⟩
            replace f := f.trans (pf_let_eq hu36)
            first | (exfalso; omega) | exact ⟨_, V, W, e, f.trans (congrArg (fun z => (z, W)) (show u35 = u33 by omega)), hq0⟩ | (have g := s4 (by omega); exact ⟨_, V, W, e, f.trans (congrArg (fun z => (z, W)) (show u35 = u33 by omega)), hq0⟩) | (have g := hA (by omega); exact ⟨_, V, W, e, f.trans (congrArg (fun z => (z, W)) (show u35 = u33 by omega)), hq0⟩)
          · replace e := e.trans (if_neg c32)
            by_cases c37 : a1 = 2
            · replace e := e.trans (if_pos c37)
              obtain ⟨u38, hu39⟩ : ∃ y, V 4 1 = y := ⟨_, rfl⟩
              replace e := e.trans (pf_let_eq hu39)
              have f := F_X12_count_eq a1 W
              replace f := f.trans (if_neg (by omega))
              replace f := f.trans (if_neg (by omega))
              replace f := f.trans (if_neg (by omega))
              replace f := f.trans (if_pos (by omega))
              obtain ⟨u40, hu41⟩ : ∃ y, W 90 23 = y := ⟨_, rfl⟩
              replace f := f.trans (pf_let_eq hu41)
              first | (exfalso; omega) | exact ⟨_, V, W, e, f.trans (congrArg (fun z => (z, W)) (show u40 = u38 by omega)), hq0⟩ | (have g := s4 (by omega); exact ⟨_, V, W, e, f.trans (congrArg (fun z => (z, W)) (show u40 = u38 by omega)), hq0⟩) | (have g := hA (by omega); exact ⟨_, V, W, e, f.trans (congrArg (fun z => (z, W)) (show u40 = u38 by omega)), hq0⟩)
            · replace e := e.trans (if_neg c37)
              by_cases c42 : a1 = 3
              · replace e := e.trans (if_pos c42)
                obtain ⟨u43, hu44⟩ : ∃ y, V 4 6 = y := ⟨_, rfl⟩
                replace e := e.trans (pf_let_eq hu44)
                have f := F_X12_count_eq a1 W
                replace f := f.trans (if_neg (by omega))
                replace f := f.trans (if_neg (by omega))
                replace f := f.trans (if_neg (by omega))
                replace f := f.trans (if_neg (by omega))
                replace f := f.trans (if_pos (by omega))
                obtain ⟨u45, hu46⟩ : ∃ y, W 90 25 = y := ⟨_, rfl⟩
                replace f := f.trans (pf_let_eq hu46)
                first | (exfalso; omega) | exact ⟨_, V, W, e, f.trans (congrArg (fun z => (z, W)) (show u45 = u43 by omega)), hq0⟩ | (have g := s4 (by omega); exact ⟨_, V, W, e, f.trans (congrArg (fun z => (z, W)) (show u45 = u43 by omega)), hq0⟩) | (have g := hA (by omega); exact ⟨_, V, W, e, f.trans (congrArg (fun z => (z, W)) (show u45 = u43 by omega)), hq0⟩)
              · replace e := e.trans (if_neg c42)
                by_cases c47 : a1 = 4
                · replace e := e.trans (if_pos c47)
                  replace e := e.trans (if_neg (by omega))
                  obtain ⟨u48, hu49⟩ : ∃ y, V 63 0 = y := ⟨_, rfl⟩
                  replace e := e.trans (pf_let_eq hu49)
                  have f := F_X12_count_eq a1 W
                  replace f := f.trans (if_neg (by omega))
                  replace f := f.trans (if_neg (by omega))
                  replace f := f.trans (if_neg (by omega))
                  replace f := f.trans (if_neg (by omega))
                  replace f := f.trans (if_neg (by omega))
                  replace f := f.trans (if_pos (by omega))
                  obtain ⟨u50, hu51⟩ : ∃ y, W 90 35 = y := ⟨_, rfl⟩
                  replace f := f.trans (pf_let_eq hu51)
                  first | (exfalso; omega) | exact ⟨_, V, W, e, f.trans (congrArg (fun z => (z, W)) (show u50 = u48 by omega)), hq0⟩ | (have g := s4 (by omega); exact ⟨_, V, W, e, f.trans (congrArg (fun z => (z, W)) (show u50 = u48 by omega)), hq0⟩) | (have g := hA (by omega); exact ⟨_, V, W, e, f.trans (congrArg (fun z => (z, W)) (show u50 = u48 by omega)), hq0⟩)
                · replace e := e.trans (if_neg c47)
                  by_cases c52 : a1 = 5
                  · replace e := e.trans (if_pos c52)
                    by_cases c53 : (0 : Int) < W 90 16
                    · replace e := e.trans (pf_call_eq ((nf_hasScene (V := V) hs).1 c53))
                      replace e := e.trans (if_neg (by decide))
                      replace e := e.trans (if_neg (by omega))
                      obtain ⟨u55, hu56⟩ : ∃ y, V 51 8 = y := ⟨_, rfl⟩
                      replace e := e.trans (pf_let_eq hu56)
                      have f := F_X12_count_eq a1 W
                      replace f := f.trans (if_neg (by omega))
                      replace f := f.trans (if_neg (by omega))
                      replace f := f.trans (if_neg (by omega))
                      replace f := f.trans (if_neg (by omega))
                      replace f := f.trans (if_neg (by omega))
                      replace f := f.trans (if_neg (by omega))
                      replace f := f.trans (if_pos (by omega))
                      obtain ⟨u57, hu58⟩ : ∃ y, W 90 19 = y := ⟨_, rfl⟩
                      replace f := f.trans (pf_let_eq hu58)
                      first | (exfalso; omega) | exact ⟨_, V, W, e, f.trans (congrArg (fun z => (z, W)) (show u57 = u55 by omega)), hq0⟩ | (have g := s4 (by omega); exact ⟨_, V, W, e, f.trans (congrArg (fun z => (z, W)) (show u57 = u55 by omega)), hq0⟩) | (have g := hA (by omega); exact ⟨_, V, W, e, f.trans (congrArg (fun z => (z, W)) (show u57 = u55 by omega)), hq0⟩)
                    · replace e := e.trans (pf_call_eq ((nf_hasScene (V := V) hs).2 c53))
                      replace e := e.trans (if_pos (by decide))
                      have f := F_X12_count_eq a1 W
                      replace f := f.trans (if_neg (by omega))
                      replace f := f.trans (if_neg (by omega))
                      replace f := f.trans (if_neg (by omega))
                      replace f := f.trans (if_neg (by omega))
                      replace f := f.trans (if_neg (by omega))
                      replace f := f.trans (if_neg (by omega))
                      replace f := f.trans (if_pos (by omega))
                      obtain ⟨u59, hu60⟩ : ∃ y, W 90 19 = y := ⟨_, rfl⟩
                      replace f := f.trans (pf_let_eq hu60)
                      first | (exfalso; omega) | exact ⟨_, V, W, e, f.trans (congrArg (fun z => (z, W)) (show u59 = 0 by omega)), hq0⟩ | (have g := s4 (by omega); exact ⟨_, V, W, e, f.trans (congrArg (fun z => (z, W)) (show u59 = 0 by omega)), hq0⟩) | (have g := hA (by omega); exact ⟨_, V, W, e, f.trans (congrArg (fun z => (z, W)) (show u59 = 0 by omega)), hq0⟩)
                  · replace e := e.trans (if_neg c52)
                    by_cases c61 : a1 = 6
                    · replace e := e.trans (if_pos c61)
                      by_cases c62 : (0 : Int) < W 90 16
                      · replace e := e.trans (pf_call_eq ((nf_hasScene (V := V) hs).1 c62))
                        replace e := e.trans (if_neg (by decide))
                        replace e := e.trans (if_neg (by omega))
                        obtain ⟨u64, hu65⟩ : ∃ y, V 51 9 = y := ⟨_, rfl⟩
                        replace e := e.trans (pf_let_eq hu65)
                        have f := F_X12_count_eq a1 W
                        replace f := f.trans (if_neg (by omega))
                        replace f := f.trans (if_neg (by omega))
                        replace f := f.trans (if_neg (by omega))
                        replace f := f.trans (if_neg (by omega))
                        replace f := f.trans (if_neg (by omega))
                        replace f := f.trans (if_neg (by omega))
                        replace f := f.trans (if_neg (by omega))
                        replace f := f.trans (if_pos (by omega))
                        obtain ⟨u66, hu67⟩ : ∃ y, W 90 20 = y := ⟨_, rfl⟩
                        replace f := f.trans (pf_let_eq hu67)
                        first | (exfalso; omega) | exact ⟨_, V, W, e, f.trans (congrArg (fun z => (z, W)) (show u66 = u64 by omega)), hq0⟩ | (have g := s4 (by omega); exact ⟨_, V, W, e, f.trans (congrArg (fun z => (z, W)) (show u66 = u64 by omega)), hq0⟩) | (have g := hA (by omega); exact ⟨_, V, W, e, f.trans (congrArg (fun z => (z, W)) (show u66 = u64 by omega)), hq0⟩)
                      · replace e := e.trans (pf_call_eq ((nf_hasScene (V := V) hs).2 c62))
                        replace e := e.trans (if_pos (by decide))
                        have f := F_X12_count_eq a1 W
                        replace f := f.trans (if_neg (by omega))
                        replace f := f.trans (if_neg (by omega))
                        replace f := f.trans (if_neg (by omega))
                        replace f := f.trans (if_neg (by omega))
                        replace f := f.trans (if_neg (by omega))
                        replace f := f.trans (if_neg (by omega))
                        replace f := f.trans (if_neg (by omega))
                        replace f := f.trans (if_pos (by omega))
                        obtain ⟨u68, hu69⟩ : ∃ y, W 90 20 = y := ⟨_, rfl⟩
                        replace f := f.trans (pf_let_eq hu69)
                        first | (exfalso; omega) | exact ⟨_, V, W, e, f.trans (congrArg (fun z => (z, W)) (show u68 = 0 by omega)), hq0⟩ | (have g := s4 (by omega); exact ⟨_, V, W, e, f.trans (congrArg (fun z => (z, W)) (show u68 = 0 by omega)), hq0⟩) | (have g := hA (by omega); exact ⟨_, V, W, e, f.trans (congrArg (fun z => (z, W)) (show u68 = 0 by omega)), hq0⟩)
                    · replace e := e.trans (if_neg c61)
                      by_cases c70 : a1 = 7
                      · replace e := e.trans (if_pos c70)
                        obtain ⟨u71, hu72⟩ : ∃ y, V 1 1 = y := ⟨_, rfl⟩
                        replace e := e.trans (pf_let_eq hu72)
                        have f := F_X12_count_eq a1 W
                        replace f := f.trans (if_neg (by omega))
                        replace f := f.trans (if_neg (by omega))
                        replace f := f.trans (if_neg (by omega))
                        replace f := f.trans (if_neg (by omega))
                        replace f := f.trans (if_neg (by omega))
                        replace f := f.trans (if_neg (by omega))
                        replace f := f.trans (if_neg (by omega))
                        replace f := f.trans (if_neg (by omega))
                        replace f := f.trans (if_pos (by omega))
                        obtain ⟨u73, hu74⟩ : ∃ y, W 90 1 = y := ⟨_, rfl⟩
                        replace f := f.trans (pf_let_eq hu74)
                        first | (exfalso; omega) | exact ⟨_, V, W, e, f.trans (congrArg (fun z => (z, W)) (show u73 = u71 by omega)), hq0⟩ | (have g := s4 (by omega); exact ⟨_, V, W, e, f.trans (congrArg (fun z => (z, W)) (show u73 = u71 by omega)), hq0⟩) | (have g := hA (by omega); exact ⟨_, V, W, e, f.trans (congrArg (fun z => (z, W)) (show u73 = u71 by omega)), hq0⟩)
                      · replace e := e.trans (if_neg c70)
                        have f := F_X12_count_eq a1 W
                        by_cases c75 : a1 < 0 ∨ 7 < a1
                        · replace f := f.trans (if_pos c75)
                          first | (exfalso; omega) | exact ⟨_, V, W, e, f.trans (congrArg (fun z => (z, W)) (show (-1) = (0 : Int) by omega)), hq0⟩ | (have g := s4 (by omega); exact ⟨_, V, W, e, f.trans (congrArg (fun z => (z, W)) (show (-1) = (0 : Int) by omega)), hq0⟩) | (have g := hA (by omega); exact ⟨_, V, W, e, f.trans (congrArg (fun z => (z, W)) (show (-1) = (0 : Int) by omega)), hq0⟩)
                        · replace f := f.trans (if_neg c75)
                          by_cases c76 : a1 = 0
                          · replace f := f.trans (if_pos c76)
                            obtain ⟨u77, hu78⟩ : ∃ y, W 90 16 = y := ⟨_, rfl⟩
                            replace f := f.trans (pf_let_eq hu78)
                            first | (exfalso; omega) | exact ⟨_, V, W, e, f.trans (congrArg (fun z => (z, W)) (show u77 = (0 : Int) by omega)), hq0⟩ | (have g := s4 (by omega); exact ⟨_, V, W, e, f.trans (congrArg (fun z => (z, W)) (show u77 = (0 : Int) by omega)), hq0⟩) | (have g := hA (by omega); exact ⟨_, V, W, e, f.trans (congrArg (fun z => (z, W)) (show u77 = (0 : Int) by omega)), hq0⟩)
                          · replace f := f.trans (if_neg c76)
                            by_cases c79 : a1 = 1
                            · replace f := f.trans (if_pos c79)
                              obtain ⟨u80, hu81⟩ : ∃ y, W 90 21 = y := ⟨_, rfl⟩
                              replace f := f.trans (pf_let_eq hu81)
                              first | (exfalso; omega) | exact ⟨_, V, W, e, f.trans (congrArg (fun z => (z, W)) (show u80 = (0 : Int) by omega)), hq0⟩ | (have g := s4 (by omega); exact ⟨_, V, W, e, f.trans (congrArg (fun z => (z, W)) (show u80 = (0 : Int) by omega)), hq0⟩) | (have g := hA (by omega); exact ⟨_, V, W, e, f.trans (congrArg (fun z => (z, W)) (show u80 = (0 : Int) by omega)), hq0⟩)
                            · replace f := f.trans (if_neg c79)
                              by_cases c82 : a1 = 2
                              · replace f := f.trans (if_pos c82)
                                obtain ⟨u83, hu84⟩ : ∃ y, W 90 23 = y := ⟨_, rfl⟩
                                replace f := f.trans (pf_let_eq hu84)
                                first | (exfalso; omega) | exact ⟨_, V, W, e, f.trans (congrArg (fun z => (z, W)) (show u83 = (0 : Int) by omega)), hq0⟩ | (have g := s4 (by omega); exact ⟨_, V, W, e, f.trans (congrArg (fun z => (z, W)) (show u83 = (0 : Int) by omega)), hq0⟩) | (have g := hA (by omega); exact ⟨_, V, W, e, f.trans (congrArg (fun z => (z, W)) (show u83 = (0 : Int) by omega)), hq0⟩)
                              · replace f := f.trans (if_neg c82)
                                by_cases c85 : a1 = 3
                                · replace f := f.trans (if_pos c85)
                                  obtain ⟨u86, hu87⟩ : ∃ y, W 90 25 = y := ⟨_, rfl⟩
                                  replace f := f.trans (pf_let_eq hu87)
                                  first | (exfalso; omega) | exact ⟨_, V, W, e, f.trans (congrArg (fun z => (z, W)) (show u86 = (0 : Int) by omega)), hq0⟩ | (have g := s4 (by omega); exact ⟨_, V, W, e, f.trans (congrArg (fun z => (z, W)) (show u86 = (0 : Int) by omega)), hq0⟩) | (have g := hA (by omega); exact ⟨_, V, W, e, f.trans (congrArg (fun z => (z, W)) (show u86 = (0 : Int) by omega)), hq0⟩)
                                · replace f := f.trans (if_neg c85)
                                  by_cases c88 : a1 = 4
                                  · replace f := f.trans (if_pos c88)
                                    obtain ⟨u89, hu90⟩ : ∃ y, W 90 35 = y := ⟨_, rfl⟩
                                    replace f := f.trans (pf_let_eq hu90)
                                    first | (exfalso; omega) | exact ⟨_, V, W, e, f.trans (congrArg (fun z => (z, W)) (show u89 = (0 : Int) by omega)), hq0⟩ | (have g := s4 (by omega); exact ⟨_, V, W, e, f.trans (congrArg (fun z => (z, W)) (show u89 = (0 : Int) by omega)), hq0⟩) | (have g := hA (by omega); exact ⟨_, V, W, e, f.trans (congrArg (fun z => (z, W)) (show u89 = (0 : Int) by omega)), hq0⟩)
                                  · replace f := f.trans (if_neg c88)
                                    by_cases c91 : a1 = 5
                                    · replace f := f.trans (if_pos c91)
                                      obtain ⟨u92, hu93⟩ : ∃ y, W 90 19 = y := ⟨_, rfl⟩
                                      replace f := f.trans (pf_let_eq hu93)
                                      first | (exfalso; omega) | exact ⟨_, V, W, e, f.trans (congrArg (fun z => (z, W)) (show u92 = (0 : Int) by omega)), hq0⟩ | (have g := s4 (by omega); exact ⟨_, V, W, e, f.trans (congrArg (fun z => (z, W)) (show u92 = (0 : Int) by omega)), hq0⟩) | (have g := hA (by omega); exact ⟨_, V, W, e, f.trans (congrArg (fun z => (z, W)) (show u92 = (0 : Int) by omega)), hq0⟩)
                                    · replace f := f.trans (if_neg c91)
                                      by_cases c94 : a1 = 6
                                      · replace f := f.trans (if_pos c94)
                                        obtain ⟨u95, hu96⟩ : ∃ y, W 90 20 = y := ⟨_, rfl⟩
                                        replace f := f.trans (pf_let_eq hu96)
                                        first | (exfalso; omega) | exact ⟨_, V, W, e, f.trans (congrArg (fun z => (z, W)) (show u95 = (0 : Int) by omega)), hq0⟩ | (have g := s4 (by omega); exact ⟨_, V, W, e, f.trans (congrArg (fun z => (z, W)) (show u95 = (0 : Int) by omega)), hq0⟩) | (have g := hA (by omega); exact ⟨_, V, W, e, f.trans (congrArg (fun z => (z, W)) (show u95 = (0 : Int) by omega)), hq0⟩)
                                      · replace f := f.trans (if_neg c94)
                                        by_cases c97 : a1 = 7
                                        · replace f := f.trans (if_pos c97)
                                          obtain ⟨u98, hu99⟩ : ∃ y, W 90 1 = y := ⟨_, rfl⟩
                                          replace f := f.trans (pf_let_eq hu99)
                                          first | (exfalso; omega) | exact ⟨_, V, W, e, f.trans (congrArg (fun z => (z, W)) (show u98 = (0 : Int) by omega)), hq0⟩ | (have g := s4 (by omega); exact ⟨_, V, W, e, f.trans (congrArg (fun z => (z, W)) (show u98 = (0 : Int) by omega)), hq0⟩) | (have g := hA (by omega); exact ⟨_, V, W, e, f.trans (congrArg (fun z => (z, W)) (show u98 = (0 : Int) by omega)), hq0⟩)
                                        · replace f := f.trans (if_neg c97)
                                          first | (exfalso; omega) | exact ⟨_, V, W, e, f.trans (congrArg (fun z => (z, W)) (show (0 : Int) = (0 : Int) by omega)), hq0⟩ | (have g := s4 (by omega); exact ⟨_, V, W, e, f.trans (congrArg (fun z => (z, W)) (show (0 : Int) = (0 : Int) by omega)), hq0⟩) | (have g := hA (by omega); exact ⟨_, V, W, e, f.trans (congrArg (fun z => (z, W)) (show (0 : Int) = (0 : Int) by omega)), hq0⟩)
set_option maxHeartbeats 4000000 in
theorem mA_sound {V : pm_M} (hs : (V 0 8 = 45 ∧ V 45 0 = 0) ∨ (V 0 8 = 51 ∧ V 51 0 = 0)) (h5 : V 4 1 = 0) (h6 : V 4 6 = 0) (i0 : V 15 0 = 0) (i1 : V 25 0 = 0) (i2 : V 35 0 = 0) (a1 a2 : Int) : F_X11_sound a1 a2 V = (-1, V) := by
  have hs0 := hs
  rcases hs0 with ⟨h8, -⟩ | ⟨h8, -⟩
  · skip
    have e := F_X11_sound_eq a1 a2 V
    by_cases c1 : 0 ≤ a1 ∧ a1 < 0
    · replace e := e.trans (pf_call_eq ((nf_isSound (V := V) hs a1).1 c1))
      replace e := e.trans (if_pos (by decide))
      by_cases c3 : a2 < 0 ∨ 2 < a2
      · replace e := e.trans (if_pos c3)
        exact e
      · replace e := e.trans (if_neg c3)
        by_cases c4 : a2 = 0
        · replace e := e.trans (if_pos c4)
          replace e := e.trans (if_pos (by omega))
          obtain ⟨u5, hu6⟩ : ∃ y, V 46 (a1 : Int).toNat = y := ⟨_, rfl⟩
          replace e := e.trans (pf_let_eq hu6)
          exfalso; omega
        · replace e := e.trans (if_neg c4)
          by_cases c7 : a2 = 1
          · replace e := e.trans (if_pos c7)
            replace e := e.trans (if_pos (by omega))
            obtain ⟨u8, hu9⟩ : ∃ y, V 47 (a1 : Int).toNat = y := ⟨_, rfl⟩
            replace e := e.trans (pf_let_eq hu9)
            exfalso; omega
          · replace e := e.trans (if_neg c7)
            by_cases c10 : a2 = 2
            · replace e := e.trans (if_pos c10)
              replace e := e.trans (if_pos (by omega))
              obtain ⟨u11, hu12⟩ : ∃ y, V 48 (a1 : Int).toNat = y := ⟨_, rfl⟩
              replace e := e.trans (pf_let_eq hu12)
              exfalso; omega
            · replace e := e.trans (if_neg c10)
              exfalso; omega
    · replace e := e.trans (pf_call_eq ((nf_isSound (V := V) hs a1).2 c1))
      replace e := e.trans (if_neg (by decide))
      exact e
  · skip
    have e := F_X11_sound_eq a1 a2 V
    by_cases c1 : 0 ≤ a1 ∧ a1 < 0
    · replace e := e.trans (pf_call_eq ((nf_isSound (V := V) hs a1).1 c1))
      replace e := e.trans (if_pos (by decide))
      by_cases c3 : a2 < 0 ∨ 2 < a2
      · replace e := e.trans (if_pos c3)
        exact e
      · replace e := e.trans (if_neg c3)
        by_cases c4 : a2 = 0
        · replace e := e.trans (if_pos c4)
          replace e := e.trans (if_neg (by omega))
          obtain ⟨u5, hu6⟩ : ∃ y, V 52 (a1 : Int).toNat = y := ⟨_, rfl⟩
          replace e := e.trans (pf_let_eq hu6)
          exfalso; omega
        · replace e := e.trans (if_neg c4)
          by_cases c7 : a2 = 1
          · replace e := e.trans (if_pos c7)
            replace e := e.trans (if_neg (by omega))
            obtain ⟨u8, hu9⟩ : ∃ y, V 53 (a1 : Int).toNat = y := ⟨_, rfl⟩
            replace e := e.trans (pf_let_eq hu9)
            exfalso; omega
          · replace e := e.trans (if_neg c7)
            by_cases c10 : a2 = 2
            · replace e := e.trans (if_pos c10)
              replace e := e.trans (if_neg (by omega))
              obtain ⟨u11, hu12⟩ : ∃ y, V 54 (a1 : Int).toNat = y := ⟨_, rfl⟩
              replace e := e.trans (pf_let_eq hu12)
              exfalso; omega
            · replace e := e.trans (if_neg c10)
              exfalso; omega
    · replace e := e.trans (pf_call_eq ((nf_isSound (V := V) hs a1).2 c1))
      replace e := e.trans (if_neg (by decide))
      exact e
set_option maxHeartbeats 4000000 in
theorem mA_person {V : pm_M} (hs : (V 0 8 = 45 ∧ V 45 0 = 0) ∨ (V 0 8 = 51 ∧ V 51 0 = 0)) (h5 : V 4 1 = 0) (h6 : V 4 6 = 0) (i0 : V 15 0 = 0) (i1 : V 25 0 = 0) (i2 : V 35 0 = 0) (a1 a2 a3 : Int) : F_X11_person a1 a2 a3 V = (-1, V) := by
  have hs0 := hs
  rcases hs0 with ⟨h8, -⟩ | ⟨h8, -⟩
  · skip
    have e := F_X11_person_eq a1 a2 a3 V
    by_cases c1 : -30 ≤ a1 ∧ a1 ≤ 30 ∧ -30 ≤ a2 ∧ a2 ≤ 30
    · replace e := e.trans (pf_call_eq ((nf_areChanges (V := V) a1 a2).1 c1))
      replace e := e.trans (if_neg (by decide))
      by_cases c3 : a3 < 0
      · replace e := e.trans (if_pos c3)
        by_cases c4 : (0 : Int) < 0
        · replace e := e.trans (pf_call_eq ((nf_hasScene (V := V) hs).1 c4))
          replace e := e.trans (if_neg (by decide))
          exact e
        · replace e := e.trans (pf_call_eq ((nf_hasScene (V := V) hs).2 c4))
          replace e := e.trans (if_pos (by decide))
          exact e
      · replace e := e.trans (if_neg c3)
        by_cases c6 : 3 < (a3 / 100)
        · replace e := e.trans (if_pos c6)
          by_cases c7 : (0 : Int) < 0
          · replace e := e.trans (pf_call_eq ((nf_hasScene (V := V) hs).1 c7))
            replace e := e.trans (if_neg (by decide))
            exact e
          · replace e := e.trans (pf_call_eq ((nf_hasScene (V := V) hs).2 c7))
            replace e := e.trans (if_pos (by decide))
            exact e
        · replace e := e.trans (if_neg c6)
          by_cases c9 : 0 ≤ (a3 % 100) ∧ (a3 % 100) ≤ 16
          · replace e := e.trans (pf_call_eq ((nf_isBelief (V := V) (a3 % 100)).1 c9))
            replace e := e.trans (if_neg (by decide))
            by_cases c11 : (0 : Int) < 0
            · replace e := e.trans (pf_call_eq ((nf_hasScene (V := V) hs).1 c11))
              replace e := e.trans (if_neg (by decide))
              obtain ⟨u13, hu14⟩ : ∃ y, V 4 1 = y := ⟨_, rfl⟩
              replace e := e.trans (pf_let_eq hu14)
              by_cases c15 : u13 < 10
              · replace e := e.trans (if_pos c15)
                have q16 := F_X7_addPerson_eq a1 a2 (a3 % 100) (a3 / 100) V
                obtain ⟨u17, hu18⟩ : ∃ y, V 4 1 = y := ⟨_, rfl⟩
                replace q16 := q16.trans (pf_let_eq hu18)
                by_cases c19 : u17 < 10
                · replace q16 := q16.trans (if_pos c19)
                  have q20 := F_X7_changePerson_eq u17 a1 a2 (a3 % 100) (pm_up V 8 (u17 : Int).toNat (a3 / 100))
                  replace q16 := q16.trans (pf_call_eq q20)
                  replace e := e.trans (pf_call_eq q16)
                  exfalso; omega
                · replace q16 := q16.trans (if_neg c19)
                  replace e := e.trans (pf_call_eq q16)
                  exact e
              · replace e := e.trans (if_neg c15)
                exact e
            · replace e := e.trans (pf_call_eq ((nf_hasScene (V := V) hs).2 c11))
              replace e := e.trans (if_pos (by decide))
              exact e
          · replace e := e.trans (pf_call_eq ((nf_isBelief (V := V) (a3 % 100)).2 c9))
            replace e := e.trans (if_pos (by decide))
            by_cases c21 : (0 : Int) < 0
            · replace e := e.trans (pf_call_eq ((nf_hasScene (V := V) hs).1 c21))
              replace e := e.trans (if_neg (by decide))
              exact e
            · replace e := e.trans (pf_call_eq ((nf_hasScene (V := V) hs).2 c21))
              replace e := e.trans (if_pos (by decide))
              exact e
    · replace e := e.trans (pf_call_eq ((nf_areChanges (V := V) a1 a2).2 c1))
      replace e := e.trans (if_pos (by decide))
      by_cases c23 : (0 : Int) < 0
      · replace e := e.trans (pf_call_eq ((nf_hasScene (V := V) hs).1 c23))
        replace e := e.trans (if_neg (by decide))
        exact e
      · replace e := e.trans (pf_call_eq ((nf_hasScene (V := V) hs).2 c23))
        replace e := e.trans (if_pos (by decide))
        exact e
  · skip
    have e := F_X11_person_eq a1 a2 a3 V
    by_cases c1 : -30 ≤ a1 ∧ a1 ≤ 30 ∧ -30 ≤ a2 ∧ a2 ≤ 30
    · replace e := e.trans (pf_call_eq ((nf_areChanges (V := V) a1 a2).1 c1))
      replace e := e.trans (if_neg (by decide))
      by_cases c3 : a3 < 0
      · replace e := e.trans (if_pos c3)
        by_cases c4 : (0 : Int) < 0
        · replace e := e.trans (pf_call_eq ((nf_hasScene (V := V) hs).1 c4))
          replace e := e.trans (if_neg (by decide))
          exact e
        · replace e := e.trans (pf_call_eq ((nf_hasScene (V := V) hs).2 c4))
          replace e := e.trans (if_pos (by decide))
          exact e
      · replace e := e.trans (if_neg c3)
        by_cases c6 : 3 < (a3 / 100)
        · replace e := e.trans (if_pos c6)
          by_cases c7 : (0 : Int) < 0
          · replace e := e.trans (pf_call_eq ((nf_hasScene (V := V) hs).1 c7))
            replace e := e.trans (if_neg (by decide))
            exact e
          · replace e := e.trans (pf_call_eq ((nf_hasScene (V := V) hs).2 c7))
            replace e := e.trans (if_pos (by decide))
            exact e
        · replace e := e.trans (if_neg c6)
          by_cases c9 : 0 ≤ (a3 % 100) ∧ (a3 % 100) ≤ 16
          · replace e := e.trans (pf_call_eq ((nf_isBelief (V := V) (a3 % 100)).1 c9))
            replace e := e.trans (if_neg (by decide))
            by_cases c11 : (0 : Int) < 0
            · replace e := e.trans (pf_call_eq ((nf_hasScene (V := V) hs).1 c11))
              replace e := e.trans (if_neg (by decide))
              obtain ⟨u13, hu14⟩ : ∃ y, V 4 1 = y := ⟨_, rfl⟩
              replace e := e.trans (pf_let_eq hu14)
              by_cases c15 : u13 < 10
              · replace e := e.trans (if_pos c15)
                have q16 := F_X7_addPerson_eq a1 a2 (a3 % 100) (a3 / 100) V
                obtain ⟨u17, hu18⟩ : ∃ y, V 4 1 = y := ⟨_, rfl⟩
                replace q16 := q16.trans (pf_let_eq hu18)
                by_cases c19 : u17 < 10
                · replace q16 := q16.trans (if_pos c19)
                  have q20 := F_X7_changePerson_eq u17 a1 a2 (a3 % 100) (pm_up V 8 (u17 : Int).toNat (a3 / 100))
                  replace q16 := q16.trans (pf_call_eq q20)
                  replace e := e.trans (pf_call_eq q16)
                  exfalso; omega
                · replace q16 := q16.trans (if_neg c19)
                  replace e := e.trans (pf_call_eq q16)
                  exact e
              · replace e := e.trans (if_neg c15)
                exact e
            · replace e := e.trans (pf_call_eq ((nf_hasScene (V := V) hs).2 c11))
              replace e := e.trans (if_pos (by decide))
              exact e
          · replace e := e.trans (pf_call_eq ((nf_isBelief (V := V) (a3 % 100)).2 c9))
            replace e := e.trans (if_pos (by decide))
            by_cases c21 : (0 : Int) < 0
            · replace e := e.trans (pf_call_eq ((nf_hasScene (V := V) hs).1 c21))
              replace e := e.trans (if_neg (by decide))
              exact e
            · replace e := e.trans (pf_call_eq ((nf_hasScene (V := V) hs).2 c21))
              replace e := e.trans (if_pos (by decide))
              exact e
    · replace e := e.trans (pf_call_eq ((nf_areChanges (V := V) a1 a2).2 c1))
      replace e := e.trans (if_pos (by decide))
      by_cases c23 : (0 : Int) < 0
      · replace e := e.trans (pf_call_eq ((nf_hasScene (V := V) hs).1 c23))
        replace e := e.trans (if_neg (by decide))
        exact e
      · replace e := e.trans (pf_call_eq ((nf_hasScene (V := V) hs).2 c23))
        replace e := e.trans (if_pos (by decide))
        exact e
set_option maxHeartbeats 4000000 in
theorem mA_becomes {V : pm_M} (hs : (V 0 8 = 45 ∧ V 45 0 = 0) ∨ (V 0 8 = 51 ∧ V 51 0 = 0)) (h5 : V 4 1 = 0) (h6 : V 4 6 = 0) (i0 : V 15 0 = 0) (i1 : V 25 0 = 0) (i2 : V 35 0 = 0) (a1 a2 a3 a4 : Int) : F_X11_becomes a1 a2 a3 a4 V = (0, V) := by
  have hs0 := hs
  rcases hs0 with ⟨h8, -⟩ | ⟨h8, -⟩
  · skip
    have e := F_X11_becomes_eq a1 a2 a3 a4 V
    by_cases c1 : 0 ≤ a1 ∧ a1 < V 4 1
    · replace e := e.trans (pf_call_eq ((nf_isPerson (V := V) a1).1 c1))
      replace e := e.trans (if_neg (by decide))
      by_cases c3 : -30 ≤ a2 ∧ a2 ≤ 30 ∧ -30 ≤ a3 ∧ a3 ≤ 30
      · replace e := e.trans (pf_call_eq ((nf_areChanges (V := V) a2 a3).1 c3))
        replace e := e.trans (if_neg (by decide))
        by_cases c5 : 0 ≤ a4 ∧ a4 ≤ 16
        · replace e := e.trans (pf_call_eq ((nf_isBelief (V := V) a4).1 c5))
          replace e := e.trans (if_pos (by decide))
          have q7 := F_X7_changePerson_eq a1 a2 a3 a4 V
          replace e := e.trans (pf_call_eq q7)
          exfalso; omega
        · replace e := e.trans (pf_call_eq ((nf_isBelief (V := V) a4).2 c5))
          replace e := e.trans (if_neg (by decide))
          exact e
      · replace e := e.trans (pf_call_eq ((nf_areChanges (V := V) a2 a3).2 c3))
        replace e := e.trans (if_pos (by decide))
        exact e
    · replace e := e.trans (pf_call_eq ((nf_isPerson (V := V) a1).2 c1))
      replace e := e.trans (if_pos (by decide))
      exact e
  · skip
    have e := F_X11_becomes_eq a1 a2 a3 a4 V
    by_cases c1 : 0 ≤ a1 ∧ a1 < V 4 1
    · replace e := e.trans (pf_call_eq ((nf_isPerson (V := V) a1).1 c1))
      replace e := e.trans (if_neg (by decide))
      by_cases c3 : -30 ≤ a2 ∧ a2 ≤ 30 ∧ -30 ≤ a3 ∧ a3 ≤ 30
      · replace e := e.trans (pf_call_eq ((nf_areChanges (V := V) a2 a3).1 c3))
        replace e := e.trans (if_neg (by decide))
        by_cases c5 : 0 ≤ a4 ∧ a4 ≤ 16
        · replace e := e.trans (pf_call_eq ((nf_isBelief (V := V) a4).1 c5))
          replace e := e.trans (if_pos (by decide))
          have q7 := F_X7_changePerson_eq a1 a2 a3 a4 V
          replace e := e.trans (pf_call_eq q7)
          exfalso; omega
        · replace e := e.trans (pf_call_eq ((nf_isBelief (V := V) a4).2 c5))
          replace e := e.trans (if_neg (by decide))
          exact e
      · replace e := e.trans (pf_call_eq ((nf_areChanges (V := V) a2 a3).2 c3))
        replace e := e.trans (if_pos (by decide))
        exact e
    · replace e := e.trans (pf_call_eq ((nf_isPerson (V := V) a1).2 c1))
      replace e := e.trans (if_pos (by decide))
      exact e
set_option maxHeartbeats 4000000 in
theorem mA_undo {V : pm_M} (hs : (V 0 8 = 45 ∧ V 45 0 = 0) ∨ (V 0 8 = 51 ∧ V 51 0 = 0)) (h5 : V 4 1 = 0) (h6 : V 4 6 = 0) (i0 : V 15 0 = 0) (i1 : V 25 0 = 0) (i2 : V 35 0 = 0)  : F_X11_undo  V = (-1, V) := by
  have hs0 := hs
  rcases hs0 with ⟨h8, -⟩ | ⟨h8, -⟩
  · skip
    have e := F_X11_undo_eq  V
    obtain ⟨u1, hu2⟩ : ∃ y, V 4 6 = y := ⟨_, rfl⟩
    replace e := e.trans (pf_let_eq hu2)
    by_cases c3 : 0 < u1
    · replace e := e.trans (if_pos c3)
      exfalso; omega
    · replace e := e.trans (if_neg c3)
      exact e
  · skip
    have e := F_X11_undo_eq  V
    obtain ⟨u1, hu2⟩ : ∃ y, V 4 6 = y := ⟨_, rfl⟩
    replace e := e.trans (pf_let_eq hu2)
    by_cases c3 : 0 < u1
    · replace e := e.trans (if_pos c3)
      exfalso; omega
    · replace e := e.trans (if_neg c3)
      exact e
set_option maxHeartbeats 4000000 in
theorem mA_answer {V : pm_M} (hs : (V 0 8 = 45 ∧ V 45 0 = 0) ∨ (V 0 8 = 51 ∧ V 51 0 = 0)) (h5 : V 4 1 = 0) (h6 : V 4 6 = 0) (i0 : V 15 0 = 0) (i1 : V 25 0 = 0) (i2 : V 35 0 = 0) (a1 a2 a3 a4 : Int) : F_X11_answer a1 a2 a3 a4 V = (-1, V) := by
  have hs0 := hs
  rcases hs0 with ⟨h8, -⟩ | ⟨h8, -⟩
  · skip
    have e := F_X11_answer_eq a1 a2 a3 a4 V
    by_cases c1 : 0 ≤ a1 ∧ a1 / 100 < V 4 1 ∧ a1 / 10 % 10 < 0 ∧ a1 % 10 < 0 ∧ 0 ≤ a2 ∧ a2 ≤ 99 ∧ -99 ≤ a3 ∧ a3 ≤ 99
    · replace e := e.trans (pf_call_eq ((nf_isTrial (V := V) hs a1 a2 a3).1 c1))
      replace e := e.trans (if_neg (by decide))
      by_cases c3 : a4 < 0
      · replace e := e.trans (if_pos c3)
        exact e
      · replace e := e.trans (if_neg c3)
        by_cases c4 : 1 < (a4 / 100)
        · replace e := e.trans (if_pos c4)
          exact e
        · replace e := e.trans (if_neg c4)
          by_cases c5 : 0 ≤ (a4 % 100) ∧ (a4 % 100) < 0
          · replace e := e.trans (pf_call_eq ((nf_isSound (V := V) hs (a4 % 100)).1 c5))
            replace e := e.trans (if_neg (by decide))
            obtain ⟨u7, hu8⟩ : ∃ y, V 4 6 = y := ⟨_, rfl⟩
            replace e := e.trans (pf_let_eq hu8)
            by_cases c9 : u7 < 60
            · replace e := e.trans (if_pos c9)
              by_cases c10 : a4 < 100
              · replace e := e.trans (if_pos c10)
                have q11 := F_X7_addAnswer_eq a1 a2 a3 (a4 % 100) 0 V
                obtain ⟨u12, hu13⟩ : ∃ y, V 4 6 = y := ⟨_, rfl⟩
                replace q11 := q11.trans (pf_let_eq hu13)
                by_cases c14 : 60 ≤ u12
                · replace q11 := q11.trans (if_pos c14)
                  replace e := e.trans (pf_call_eq q11)
                  obtain ⟨u15, hu16⟩ : ∃ y, V 4 6 = y := ⟨_, rfl⟩
                  replace e := e.trans (pf_let_eq hu16)
                  exfalso; omega
                · replace q11 := q11.trans (if_neg c14)
                  replace e := e.trans (pf_call_eq q11)
                  obtain ⟨u17, hu18⟩ : ∃ y, (pm_up (pm_up (pm_up (pm_up (pm_up (pm_up V 9 (u12 : Int).toNat a1) 10 (u12 : Int).toNat a2) 11 (u12 : Int).toNat a3) 12 (u12 : Int).toNat (a4 % 100)) 13 (u12 : Int).toNat 0) 4 6 (u12 + 1)) 4 6 = y := ⟨_, rfl⟩
                  replace e := e.trans (pf_let_eq hu18)
                  have hu18' : (u12 + 1) = u17 := hu18
                  exfalso; omega
              · replace e := e.trans (if_neg c10)
                have q19 := F_X7_addAnswer_eq a1 a2 a3 (a4 % 100) 1 V
                obtain ⟨u20, hu21⟩ : ∃ y, V 4 6 = y := ⟨_, rfl⟩
                replace q19 := q19.trans (pf_let_eq hu21)
                by_cases c22 : 60 ≤ u20
                · replace q19 := q19.trans (if_pos c22)
                  replace e := e.trans (pf_call_eq q19)
                  obtain ⟨u23, hu24⟩ : ∃ y, V 4 6 = y := ⟨_, rfl⟩
                  replace e := e.trans (pf_let_eq hu24)
                  exfalso; omega
                · replace q19 := q19.trans (if_neg c22)
                  replace e := e.trans (pf_call_eq q19)
                  obtain ⟨u25, hu26⟩ : ∃ y, (pm_up (pm_up (pm_up (pm_up (pm_up (pm_up V 9 (u20 : Int).toNat a1) 10 (u20 : Int).toNat a2) 11 (u20 : Int).toNat a3) 12 (u20 : Int).toNat (a4 % 100)) 13 (u20 : Int).toNat 1) 4 6 (u20 + 1)) 4 6 = y := ⟨_, rfl⟩
                  replace e := e.trans (pf_let_eq hu26)
                  have hu26' : (u20 + 1) = u25 := hu26
                  exfalso; omega
            · replace e := e.trans (if_neg c9)
              exact e
          · replace e := e.trans (pf_call_eq ((nf_isSound (V := V) hs (a4 % 100)).2 c5))
            replace e := e.trans (if_pos (by decide))
            exact e
    · replace e := e.trans (pf_call_eq ((nf_isTrial (V := V) hs a1 a2 a3).2 c1))
      replace e := e.trans (if_pos (by decide))
      exact e
  · skip
    have e := F_X11_answer_eq a1 a2 a3 a4 V
    by_cases c1 : 0 ≤ a1 ∧ a1 / 100 < V 4 1 ∧ a1 / 10 % 10 < 0 ∧ a1 % 10 < 0 ∧ 0 ≤ a2 ∧ a2 ≤ 99 ∧ -99 ≤ a3 ∧ a3 ≤ 99
    · replace e := e.trans (pf_call_eq ((nf_isTrial (V := V) hs a1 a2 a3).1 c1))
      replace e := e.trans (if_neg (by decide))
      by_cases c3 : a4 < 0
      · replace e := e.trans (if_pos c3)
        exact e
      · replace e := e.trans (if_neg c3)
        by_cases c4 : 1 < (a4 / 100)
        · replace e := e.trans (if_pos c4)
          exact e
        · replace e := e.trans (if_neg c4)
          by_cases c5 : 0 ≤ (a4 % 100) ∧ (a4 % 100) < 0
          · replace e := e.trans (pf_call_eq ((nf_isSound (V := V) hs (a4 % 100)).1 c5))
            replace e := e.trans (if_neg (by decide))
            obtain ⟨u7, hu8⟩ : ∃ y, V 4 6 = y := ⟨_, rfl⟩
            replace e := e.trans (pf_let_eq hu8)
            by_cases c9 : u7 < 60
            · replace e := e.trans (if_pos c9)
              by_cases c10 : a4 < 100
              · replace e := e.trans (if_pos c10)
                have q11 := F_X7_addAnswer_eq a1 a2 a3 (a4 % 100) 0 V
                obtain ⟨u12, hu13⟩ : ∃ y, V 4 6 = y := ⟨_, rfl⟩
                replace q11 := q11.trans (pf_let_eq hu13)
                by_cases c14 : 60 ≤ u12
                · replace q11 := q11.trans (if_pos c14)
                  replace e := e.trans (pf_call_eq q11)
                  obtain ⟨u15, hu16⟩ : ∃ y, V 4 6 = y := ⟨_, rfl⟩
                  replace e := e.trans (pf_let_eq hu16)
                  exfalso; omega
                · replace q11 := q11.trans (if_neg c14)
                  replace e := e.trans (pf_call_eq q11)
                  obtain ⟨u17, hu18⟩ : ∃ y, (pm_up (pm_up (pm_up (pm_up (pm_up (pm_up V 9 (u12 : Int).toNat a1) 10 (u12 : Int).toNat a2) 11 (u12 : Int).toNat a3) 12 (u12 : Int).toNat (a4 % 100)) 13 (u12 : Int).toNat 0) 4 6 (u12 + 1)) 4 6 = y := ⟨_, rfl⟩
                  replace e := e.trans (pf_let_eq hu18)
                  have hu18' : (u12 + 1) = u17 := hu18
                  exfalso; omega
              · replace e := e.trans (if_neg c10)
                have q19 := F_X7_addAnswer_eq a1 a2 a3 (a4 % 100) 1 V
                obtain ⟨u20, hu21⟩ : ∃ y, V 4 6 = y := ⟨_, rfl⟩
                replace q19 := q19.trans (pf_let_eq hu21)
                by_cases c22 : 60 ≤ u20
                · replace q19 := q19.trans (if_pos c22)
                  replace e := e.trans (pf_call_eq q19)
                  obtain ⟨u23, hu24⟩ : ∃ y, V 4 6 = y := ⟨_, rfl⟩
                  replace e := e.trans (pf_let_eq hu24)
                  exfalso; omega
                · replace q19 := q19.trans (if_neg c22)
                  replace e := e.trans (pf_call_eq q19)
                  obtain ⟨u25, hu26⟩ : ∃ y, (pm_up (pm_up (pm_up (pm_up (pm_up (pm_up V 9 (u20 : Int).toNat a1) 10 (u20 : Int).toNat a2) 11 (u20 : Int).toNat a3) 12 (u20 : Int).toNat (a4 % 100)) 13 (u20 : Int).toNat 1) 4 6 (u20 + 1)) 4 6 = y := ⟨_, rfl⟩
                  replace e := e.trans (pf_let_eq hu26)
                  have hu26' : (u20 + 1) = u25 := hu26
                  exfalso; omega
            · replace e := e.trans (if_neg c9)
              exact e
          · replace e := e.trans (pf_call_eq ((nf_isSound (V := V) hs (a4 % 100)).2 c5))
            replace e := e.trans (if_pos (by decide))
            exact e
    · replace e := e.trans (pf_call_eq ((nf_isTrial (V := V) hs a1 a2 a3).2 c1))
      replace e := e.trans (if_pos (by decide))
      exact e
set_option maxHeartbeats 4000000 in
theorem mA_image {V : pm_M} (hs : (V 0 8 = 45 ∧ V 45 0 = 0) ∨ (V 0 8 = 51 ∧ V 51 0 = 0)) (h5 : V 4 1 = 0) (h6 : V 4 6 = 0) (i0 : V 15 0 = 0) (i1 : V 25 0 = 0) (i2 : V 35 0 = 0) (a1 : Int) : F_X11_image a1 V = (0, V) := by
  have hs0 := hs
  rcases hs0 with ⟨h8, -⟩ | ⟨h8, -⟩
  · skip
    have e := F_X11_image_eq a1 V
    by_cases c1 : (0 : Int) < 0
    · replace e := e.trans (pf_call_eq ((nf_hasScene (V := V) hs).1 c1))
      replace e := e.trans (if_neg (by decide))
      by_cases c3 : a1 < 0
      · replace e := e.trans (if_pos c3)
        exact e
      · replace e := e.trans (if_neg c3)
        by_cases c4 : a1 < 3
        · replace e := e.trans (if_pos c4)
          by_cases c5 : a1 = 0
          · replace e := e.trans (if_pos c5)
            obtain ⟨z6, Z7, q8⟩ : ∃ z Z, F_X7_copyFrom 15 4 V = (z, Z) := ⟨_, _, rfl⟩
            replace e := e.trans (pf_call_eq q8)
            replace e := e.trans (if_pos (by omega))
            exfalso; omega
          · replace e := e.trans (if_neg c5)
            by_cases c9 : a1 = 1
            · replace e := e.trans (if_pos c9)
              obtain ⟨z10, Z11, q12⟩ : ∃ z Z, F_X7_copyFrom 25 4 V = (z, Z) := ⟨_, _, rfl⟩
              replace e := e.trans (pf_call_eq q12)
              replace e := e.trans (if_neg (by omega))
              replace e := e.trans (if_pos (by omega))
              exfalso; omega
            · replace e := e.trans (if_neg c9)
              obtain ⟨z13, Z14, q15⟩ : ∃ z Z, F_X7_copyFrom 35 4 V = (z, Z) := ⟨_, _, rfl⟩
              replace e := e.trans (pf_call_eq q15)
              by_cases c16 : a1 = 0
              · replace e := e.trans (if_pos c16)
                exfalso; omega
              · replace e := e.trans (if_neg c16)
                by_cases c17 : a1 = 1
                · replace e := e.trans (if_pos c17)
                  exfalso; omega
                · replace e := e.trans (if_neg c17)
                  exfalso; omega
        · replace e := e.trans (if_neg c4)
          exact e
    · replace e := e.trans (pf_call_eq ((nf_hasScene (V := V) hs).2 c1))
      replace e := e.trans (if_pos (by decide))
      exact e
  · skip
    have e := F_X11_image_eq a1 V
    by_cases c1 : (0 : Int) < 0
    · replace e := e.trans (pf_call_eq ((nf_hasScene (V := V) hs).1 c1))
      replace e := e.trans (if_neg (by decide))
      by_cases c3 : a1 < 0
      · replace e := e.trans (if_pos c3)
        exact e
      · replace e := e.trans (if_neg c3)
        by_cases c4 : a1 < 3
        · replace e := e.trans (if_pos c4)
          by_cases c5 : a1 = 0
          · replace e := e.trans (if_pos c5)
            obtain ⟨z6, Z7, q8⟩ : ∃ z Z, F_X7_copyFrom 15 4 V = (z, Z) := ⟨_, _, rfl⟩
            replace e := e.trans (pf_call_eq q8)
            replace e := e.trans (if_pos (by omega))
            exfalso; omega
          · replace e := e.trans (if_neg c5)
            by_cases c9 : a1 = 1
            · replace e := e.trans (if_pos c9)
              obtain ⟨z10, Z11, q12⟩ : ∃ z Z, F_X7_copyFrom 25 4 V = (z, Z) := ⟨_, _, rfl⟩
              replace e := e.trans (pf_call_eq q12)
              replace e := e.trans (if_neg (by omega))
              replace e := e.trans (if_pos (by omega))
              exfalso; omega
            · replace e := e.trans (if_neg c9)
              obtain ⟨z13, Z14, q15⟩ : ∃ z Z, F_X7_copyFrom 35 4 V = (z, Z) := ⟨_, _, rfl⟩
              replace e := e.trans (pf_call_eq q15)
              by_cases c16 : a1 = 0
              · replace e := e.trans (if_pos c16)
                exfalso; omega
              · replace e := e.trans (if_neg c16)
                by_cases c17 : a1 = 1
                · replace e := e.trans (if_pos c17)
                  exfalso; omega
                · replace e := e.trans (if_neg c17)
                  exfalso; omega
        · replace e := e.trans (if_neg c4)
          exact e
    · replace e := e.trans (pf_call_eq ((nf_hasScene (V := V) hs).2 c1))
      replace e := e.trans (if_pos (by decide))
      exact e
set_option maxHeartbeats 4000000 in
theorem mA_back {V : pm_M} (hs : (V 0 8 = 45 ∧ V 45 0 = 0) ∨ (V 0 8 = 51 ∧ V 51 0 = 0)) (h5 : V 4 1 = 0) (h6 : V 4 6 = 0) (i0 : V 15 0 = 0) (i1 : V 25 0 = 0) (i2 : V 35 0 = 0) (a1 : Int) : F_X11_back a1 V = (0, V) := by
  have hs0 := hs
  rcases hs0 with ⟨h8, -⟩ | ⟨h8, -⟩
  · skip
    have e := F_X11_back_eq a1 V
    by_cases c1 : a1 < 0
    · replace e := e.trans (if_pos c1)
      exact e
    · replace e := e.trans (if_neg c1)
      by_cases c2 : 3 ≤ a1
      · replace e := e.trans (if_pos c2)
        exact e
      · replace e := e.trans (if_neg c2)
        by_cases c3 : a1 = 0
        · replace e := e.trans (if_pos c3)
          obtain ⟨u4, hu5⟩ : ∃ y, V 15 0 = y := ⟨_, rfl⟩
          replace e := e.trans (pf_let_eq hu5)
          by_cases c6 : ¬ (u4 = 0)
          · replace e := e.trans (if_pos c6)
            replace e := e.trans (if_pos (by omega))
            obtain ⟨z7, Z8, q9⟩ : ∃ z Z, F_X7_copyFrom 4 15 V = (z, Z) := ⟨_, _, rfl⟩
            replace e := e.trans (pf_call_eq q9)
            exfalso; omega
          · replace e := e.trans (if_neg c6)
            exact e
        · replace e := e.trans (if_neg c3)
          by_cases c10 : a1 = 1
          · replace e := e.trans (if_pos c10)
            obtain ⟨u11, hu12⟩ : ∃ y, V 25 0 = y := ⟨_, rfl⟩
            replace e := e.trans (pf_let_eq hu12)
            by_cases c13 : ¬ (u11 = 0)
            · replace e := e.trans (if_pos c13)
              replace e := e.trans (if_neg (by omega))
              replace e := e.trans (if_pos (by omega))
              obtain ⟨z14, Z15, q16⟩ : ∃ z Z, F_X7_copyFrom 4 25 V = (z, Z) := ⟨_, _, rfl⟩
              replace e := e.trans (pf_call_eq q16)
              exfalso; omega
            · replace e := e.trans (if_neg c13)
              exact e
          · replace e := e.trans (if_neg c10)
            obtain ⟨u17, hu18⟩ : ∃ y, V 35 0 = y := ⟨_, rfl⟩
            replace e := e.trans (pf_let_eq hu18)
            by_cases c19 : ¬ (u17 = 0)
            · replace e := e.trans (if_pos c19)
              by_cases c20 : a1 = 0
              · replace e := e.trans (if_pos c20)
                obtain ⟨z21, Z22, q23⟩ : ∃ z Z, F_X7_copyFrom 4 15 V = (z, Z) := ⟨_, _, rfl⟩
                replace e := e.trans (pf_call_eq q23)
                exfalso; omega
              · replace e := e.trans (if_neg c20)
                by_cases c24 : a1 = 1
                · replace e := e.trans (if_pos c24)
                  obtain ⟨z25, Z26, q27⟩ : ∃ z Z, F_X7_copyFrom 4 25 V = (z, Z) := ⟨_, _, rfl⟩
                  replace e := e.trans (pf_call_eq q27)
                  exfalso; omega
                · replace e := e.trans (if_neg c24)
                  obtain ⟨z28, Z29, q30⟩ : ∃ z Z, F_X7_copyFrom 4 35 V = (z, Z) := ⟨_, _, rfl⟩
                  replace e := e.trans (pf_call_eq q30)
                  exfalso; omega
            · replace e := e.trans (if_neg c19)
              exact e
  · skip
    have e := F_X11_back_eq a1 V
    by_cases c1 : a1 < 0
    · replace e := e.trans (if_pos c1)
      exact e
    · replace e := e.trans (if_neg c1)
      by_cases c2 : 3 ≤ a1
      · replace e := e.trans (if_pos c2)
        exact e
      · replace e := e.trans (if_neg c2)
        by_cases c3 : a1 = 0
        · replace e := e.trans (if_pos c3)
          obtain ⟨u4, hu5⟩ : ∃ y, V 15 0 = y := ⟨_, rfl⟩
          replace e := e.trans (pf_let_eq hu5)
          by_cases c6 : ¬ (u4 = 0)
          · replace e := e.trans (if_pos c6)
            replace e := e.trans (if_pos (by omega))
            obtain ⟨z7, Z8, q9⟩ : ∃ z Z, F_X7_copyFrom 4 15 V = (z, Z) := ⟨_, _, rfl⟩
            replace e := e.trans (pf_call_eq q9)
            exfalso; omega
          · replace e := e.trans (if_neg c6)
            exact e
        · replace e := e.trans (if_neg c3)
          by_cases c10 : a1 = 1
          · replace e := e.trans (if_pos c10)
            obtain ⟨u11, hu12⟩ : ∃ y, V 25 0 = y := ⟨_, rfl⟩
            replace e := e.trans (pf_let_eq hu12)
            by_cases c13 : ¬ (u11 = 0)
            · replace e := e.trans (if_pos c13)
              replace e := e.trans (if_neg (by omega))
              replace e := e.trans (if_pos (by omega))
              obtain ⟨z14, Z15, q16⟩ : ∃ z Z, F_X7_copyFrom 4 25 V = (z, Z) := ⟨_, _, rfl⟩
              replace e := e.trans (pf_call_eq q16)
              exfalso; omega
            · replace e := e.trans (if_neg c13)
              exact e
          · replace e := e.trans (if_neg c10)
            obtain ⟨u17, hu18⟩ : ∃ y, V 35 0 = y := ⟨_, rfl⟩
            replace e := e.trans (pf_let_eq hu18)
            by_cases c19 : ¬ (u17 = 0)
            · replace e := e.trans (if_pos c19)
              by_cases c20 : a1 = 0
              · replace e := e.trans (if_pos c20)
                obtain ⟨z21, Z22, q23⟩ : ∃ z Z, F_X7_copyFrom 4 15 V = (z, Z) := ⟨_, _, rfl⟩
                replace e := e.trans (pf_call_eq q23)
                exfalso; omega
              · replace e := e.trans (if_neg c20)
                by_cases c24 : a1 = 1
                · replace e := e.trans (if_pos c24)
                  obtain ⟨z25, Z26, q27⟩ : ∃ z Z, F_X7_copyFrom 4 25 V = (z, Z) := ⟨_, _, rfl⟩
                  replace e := e.trans (pf_call_eq q27)
                  exfalso; omega
                · replace e := e.trans (if_neg c24)
                  obtain ⟨z28, Z29, q30⟩ : ∃ z Z, F_X7_copyFrom 4 35 V = (z, Z) := ⟨_, _, rfl⟩
                  replace e := e.trans (pf_call_eq q30)
                  exfalso; omega
            · replace e := e.trans (if_neg c19)
              exact e
