/-! FORETOLD, on both sides -/
theorem wa_of {W X : pm_M} {k z : Int} (h0 : 0 ≤ k) (hX : F_X12_works (W 101 (5 * k.toNat)) (W 101 (5 * k.toNat + 1)) (W 101 (5 * k.toNat + 2)) W = (z, X)) : F_X12_worksAnswer k W = (0, X) := by
  have i0 : (5 * k).toNat = 5 * k.toNat := by omega
  have i1 : ((5 * k) + 1).toNat = 5 * k.toNat + 1 := by omega
  have i2 : ((5 * k) + 2).toNat = 5 * k.toNat + 2 := by omega
  have e := (F_X12_worksAnswer_eq k W).trans (pf_let_eq rfl)
  rw [i0, i1, i2] at e
  replace e := ((e.trans (pf_let_eq rfl)).trans (pf_let_eq rfl)).trans (pf_let_eq rfl)
  exact ((e.trans (pf_call_eq hX)).trans (pf_let_eq rfl)).trans (pf_let_eq rfl)
theorem ra.fr {V W Z X : pm_M} (h : ra V W) (f : fC V Z) (g : fR W X) : ra Z X := by
  refine (h.C (V' := Z) fun k i q => f k i (by unfold ad at q; omega)).R (fun k q => g.1 k ?_ ?_ ?_ ?_) (g.2 25 (by omega)) (by rw [g.2 23 (by omega)]; exact Int.le_refl _) <;> (rintro rfl; exact absurd q (by decide))
/-- nobody of the land -/
theorem fo_0 {W : pm_M} (hr : rl W) {a N : Int} (hN : W 90 25 = N) (h0 : 0 ≤ N) (hz : wk_S (ofl W a) N.toNat = 0) {d : Int × pm_M} {C : Int × Int × Int × pm_M → (Int × Int × Int × pm_M) ⊕ (Int × pm_M)} {K : Int → Int → Int → pm_M → (Int × Int × Int × pm_M) ⊕ (Int × pm_M)} {E : Int → Int → pm_M → (Int × Int × Int × pm_M) ⊕ (Int × pm_M)} (hC : ∀ (x y k : Int) (T : pm_M), C (x, y, k, T) = pf_let (T 90 25) fun y35 => (if y35 ≤ k then (if ¬ (x = 0) then E x y T else (.inr (-1, T))) else (pf_call (F_X12_isOf k a T) fun y45 _ => (if ¬ (y45 = 0) then K x y k T else (pf_let (k + 1) fun x94 => (.inl (x, y, x94, T))))))) : (pf_val d C (0, 0, 0, W)).1 = -1 := by
  have zero : ∀ k : Nat, (k : Int) < N → ofl W a k = 0 := fun k hk => by
    have q := pm_sum_le (f := ofl W a) N.toNat (fun j _ => (ofl_b W a j).1) k (by omega)
    rw [← wk_pm, hz] at q
    have b := ofl_b W a k
    omega
  refine pf_val_ind2 (d := d) (b := C) (fun s => 0 ≤ s.2.2.1 ∧ s.1 = 0 ∧ s.2.2.2 = W) (fun o => o.1 = -1) (fun s => (N - s.2.2.1).toNat) ?_ (0, 0, 0, W) ⟨Int.le_refl _, rfl, rfl⟩
  rintro ⟨x, y, k, T⟩ ⟨p0, p1, p2⟩
  dsimp only at p0 p1 p2
  have q := (hC x y k T).trans (pf_let_eq (show T 90 25 = N by rw [p2]; exact hN))
  by_cases c : N ≤ k
  · exact Or.inr ⟨_, (q.trans (if_pos c)).trans (if_neg (fun s => s p1)), rfl⟩
  · have oR := ol_R hr a (k := k) ⟨p0, by omega⟩
    rw [← p2] at oR
    replace q := (q.trans (if_neg c)).trans (pf_call_eq oR)
    rw [p2, zero k.toNat (by omega)] at q
    rw [← p2] at q
    exact Or.inl ⟨_, (q.trans (if_neg (by decide))).trans (pf_let_eq rfl), ⟨by dsimp only; omega, p1, p2⟩, by dsimp only; omega⟩
set_option maxHeartbeats 4000000 in
theorem mB_foretold {V W : pm_M} (h : wq V W) (ha : ra V W) (hr : rl W) (hn0 : 0 ≤ V 4 6) (a1 a2 a3 : Int) : ∃ y V1 W1, F_X11_foretold a1 a2 a3 V = (y, V1) ∧ F_X12_foretold a1 a2 a3 W = (y, W1) ∧ True := by
  have h6 := h.1.2.2.2.2.2.1
  obtain ⟨N, hN⟩ : ∃ N, V 4 6 = N := ⟨_, rfl⟩
  have hWN : W 90 25 = N := h6.symm.trans hN
  have e1 := F_X11_foretold_eq a1 a2 a3 V
  have e2 := F_X12_foretold_eq a1 a2 a3 W
  by_cases cl : 0 ≤ a1 ∧ a1 ≤ 6
  · replace e1 := (e1.trans (pf_call_eq ((nf_isLaw a1).1 cl))).trans (if_neg (by decide))
    replace e2 := (e2.trans (pf_call_eq ((nf_isLawR a1).1 cl))).trans (if_neg (by decide))
    by_cases c1 : -1 ≤ a2 ∧ a2 ≤ 3
    · replace e1 := (e1.trans (pf_call_eq ((nf_isLandOrAll a2).1 c1))).trans (if_neg (by decide))
      replace e2 := (e2.trans (pf_call_eq ((nf_in a2 (-1) 3).1 c1))).trans (if_neg (by decide))
      have cnt := cl_C h.1 h.2.1 ha hr hn0 a2
      rw [hN] at cnt hn0
      have L0 := (wk_S_b (g := ofl W a2) (M := 1) (by decide) N.toNat (fun j _ => ofl_b W a2 j)).1
      by_cases c2 : 0 ≤ a3 ∧ a3 ≤ 4
      · replace e2 := (e2.trans (pf_call_eq ((nf_in a3 0 4).1 c2))).trans (if_pos (by decide))
        obtain ⟨C, hC, e2⟩ := pf_loop e2
        by_cases z : wk_S (ofl W a2) N.toNat = 0
        · have R : (F_X12_foretold a1 a2 a3 W).1 = -1 := by
            rw [e2]
            exact fo_0 hr hWN hn0 z (K := fun x y k T => pf_let (x + 1) fun x57 => pf_call (F_X12_worksAnswer k T) fun _ V60 => pf_let (V60 90 42) fun z74 => pf_let (V60 90 43) fun z76 => pf_call (F_X12_weighs a1 V60) fun _ V79 => (if ¬ (a3 = 4) then (pf_call (F_X12_chanceOfKind a3 V79) fun y100 _ => pf_let (pm_w32 (y + y100)) fun y103 => pf_let (k + 1) fun x106 => (.inl (x57, y103, x106, V79))) else (pf_call (F_X12_noticedNow  V79) fun y111 _ => pf_let (pm_w32 (y + y111)) fun y114 => pf_let (k + 1) fun x117 => (.inl (x57, y114, x117, V79))))) (E := fun x y T => pf_let (pm_w32 (Int.tdiv y x)) fun y47 => (.inr (y47, T))) (fun x y k T => congrFun hC (x, y, k, T))
          have r2 : F_X12_foretold a1 a2 a3 W = (-1, (F_X12_foretold a1 a2 a3 W).2) := Prod.ext R rfl
          by_cases c3 : a3 ≤ 3
          · exact ⟨-1, V, _, (((e1.trans (pf_call_eq ((nf_isKind a3).1 ⟨c2.1, c3⟩))).trans (if_pos (by decide))).trans (pf_call_eq cnt)).trans (if_neg (by omega)), r2, trivial⟩
          · exact ⟨-1, V, _, ((((e1.trans (pf_call_eq ((nf_isKind a3).2 (by omega)))).trans (if_neg (by decide))).trans (if_neg (fun s => s (show a3 = 4 by omega)))).trans (pf_call_eq cnt)).trans (if_neg (by omega)), r2, trivial⟩
        · have sim : ∀ (d : Int × pm_M) (B : Int × Int × pm_M → (Int × Int × pm_M) ⊕ (Int × pm_M)), F_X11_foretold a1 a2 a3 V = pf_val d B (0, 0, V) → (∀ (x k : Int) (T : pm_M), (T 4 6 ≤ k → B (x, k, T) = .inr (pm_w32 (Int.tdiv x (wk_S (ofl W a2) N.toNat)), T)) ∧ (¬ T 4 6 ≤ k → ∀ g : Int, F_X11_isOfLand k a2 T = (g, T) → (g = 0 → B (x, k, T) = .inl (x, k + 1, T)) ∧ (¬ g = 0 → ∀ (z1 z2 v : Int) (T1 T2 : pm_M), F_X11_pose (T 9 k.toNat) (T 10 k.toNat) (T 11 k.toNat) T = (z1, T1) → F_X10_weigh a1 T1 = (z2, T2) → (¬ a3 = 4 → F_X10_chanceOfKind a3 T2 = (v, T2)) → (a3 = 4 → F_X10_chanceNoticed T2 = (v, T2)) → B (x, k, T) = .inl (pm_w32 (x + v), k + 1, T2)))) → ∃ y V1 W1, F_X11_foretold a1 a2 a3 V = (y, V1) ∧ F_X12_foretold a1 a2 a3 W = (y, W1) ∧ True := by
            intro d B r hB
            have key := pf_sim (d := d) (d' := ((0 : Int), W)) (b := B) (b' := C) (fun s t => s.1 = t.2.1 ∧ s.2.1 = t.2.2.1 ∧ 0 ≤ s.2.1 ∧ s.2.1 ≤ N ∧ t.1 = wk_S (ofl W a2) s.2.1.toNat ∧ wq s.2.2 t.2.2.2 ∧ ra s.2.2 t.2.2.2 ∧ fC V s.2.2 ∧ fR W t.2.2.2) (fun o p => o.1 = p.1) (fun s => (N - s.2.1).toNat) ?_ (0, 0, V) (0, 0, 0, W) ⟨rfl, rfl, Int.le_refl _, hn0, rfl, h, ha, fC.rf, fR.rf⟩
            · rw [← r, ← e2] at key
              exact ⟨(F_X11_foretold a1 a2 a3 V).1, (F_X11_foretold a1 a2 a3 V).2, (F_X12_foretold a1 a2 a3 W).2, rfl, Prod.ext key.symm rfl, trivial⟩
            · rintro ⟨x, k, U⟩ ⟨cn, x', k', Y⟩ ⟨rfl, rfl, p0, p1, p2, p3, p4, p5, p6⟩
              dsimp only at p0 p1 p2 p3 p4 p5 p6
              have u46 : U 4 6 = N := (p5 4 6 (Or.inl (Or.inl (by decide)))).trans hN
              have y25 : Y 90 25 = N := (p6.2 25 (by omega)).trans hWN
              obtain ⟨b1, b2⟩ := hB x k U
              have q2 := (congrFun hC (cn, x, k, Y)).trans (pf_let_eq y25)
              have rY := hr.fr p6
              by_cases c : N ≤ k
              · have ek : k = N := by omega
                rw [ek] at p2
                refine Or.inr ⟨_, _, b1 (by omega), ((q2.trans (if_pos c)).trans (if_pos (by omega))).trans (pf_let_eq rfl), ?_⟩
                dsimp only
                rw [p2]
              · have bo := ofl_b W a2 k.toNat
                have x1 : (k + 1).toNat = k.toNat + 1 := by omega
                have oC := ol_C p3.1 p3.2.1 p4 rY a2 (k := k) ⟨p0, by omega⟩
                have oR := ol_R rY a2 (k := k) ⟨p0, by omega⟩
                rw [ofl_fr p6] at oC oR
                obtain ⟨b3, b4⟩ := b2 (by omega) _ oC
                replace q2 := (q2.trans (if_neg c)).trans (pf_call_eq oR)
                by_cases g : ofl W a2 k.toNat = 0
                · refine Or.inl ⟨_, _, b3 g, (q2.trans (if_neg (fun s => s g))).trans (pf_let_eq rfl), ⟨rfl, rfl, by dsimp only; omega, by dsimp only; omega, ?_, p3, p4, p5, p6⟩, by dsimp only; omega⟩
                  dsimp only
                  rw [x1, p2]
                  show wk_S (ofl W a2) k.toNat = wk_S (ofl W a2) k.toNat + ofl W a2 k.toNat
                  rw [g, Int.add_zero]
                · have r0 := p4.1 k.toNat 0 (by omega) (by decide)
                  have r1 := p4.1 k.toNat 1 (by omega) (by decide)
                  have r2 := p4.1 k.toNat 2 (by omega) (by decide)
                  rw [Nat.zero_add] at r0 r1 r2
                  obtain ⟨⟨l1, l2, l3, l4⟩, l5, l6, -⟩ := rY k.toNat (by omega)
                  obtain ⟨z1, U1, hV⟩ : ∃ z Z, F_X11_pose (Y 101 (5 * k.toNat)) (Y 101 (5 * k.toNat + 1)) (Y 101 (5 * k.toNat + 2)) U = (z, Z) := ⟨_, _, rfl⟩
                  obtain ⟨z2, Y1, hW⟩ : ∃ z Z, F_X12_works (Y 101 (5 * k.toNat)) (Y 101 (5 * k.toNat + 1)) (Y 101 (5 * k.toNat + 2)) Y = (z, Z) := ⟨_, _, rfl⟩
                  obtain ⟨z3, U2, hZ⟩ : ∃ z Z, F_X10_weigh a1 U1 = (z, Z) := ⟨_, _, rfl⟩
                  obtain ⟨z4, Y2, hX⟩ : ∃ z Z, F_X12_weighs a1 Y1 = (z, Z) := ⟨_, _, rfl⟩
                  obtain ⟨c', -, k1, k2, k3, k4, -, -⟩ := wz_trial p3 cl l1 l2 l3 l4 l5 l6 hV hW hZ hX
                  have e5 : F_X11_pose (U 9 k.toNat) (U 10 k.toNat) (U 11 k.toNat) U = (z1, U1) := by
                    have s0 : U 9 k.toNat = Y 101 (5 * k.toNat) := r0
                    have s1 : U 10 k.toNat = Y 101 (5 * k.toNat + 1) := r1
                    have s2 : U 11 k.toNat = Y 101 (5 * k.toNat + 2) := r2
                    rw [s0, s1, s2]
                    exact hV
                  replace q2 := ((((q2.trans (if_pos g)).trans (pf_let_eq rfl)).trans (pf_call_eq (wa_of p0 hW))).trans (pf_let_eq rfl)).trans (pf_let_eq rfl)
                  replace q2 := q2.trans (pf_call_eq hX)
                  have nxt : wk_S (ofl W a2) k.toNat + 1 = wk_S (ofl W a2) (k + 1).toNat := by
                    rw [x1]
                    show wk_S (ofl W a2) k.toNat + 1 = wk_S (ofl W a2) k.toNat + ofl W a2 k.toNat
                    omega
                  by_cases c4 : a3 = 4
                  · obtain ⟨v, v1, v2⟩ := k1.1.noticed
                    exact Or.inl ⟨_, _, b4 g z1 z3 v U1 U2 e5 hZ (fun s => absurd c4 s) (fun _ => v1), (((q2.trans (if_neg (fun s => s c4))).trans (pf_call_eq v2)).trans (pf_let_eq rfl)).trans (pf_let_eq rfl), ⟨rfl, rfl, by dsimp only; omega, by dsimp only; omega, by dsimp only; omega, k2, p4.fr k3 k4, p5.tr k3, p6.tr k4⟩, by dsimp only; omega⟩
                  · obtain ⟨v, v1, v2⟩ := k1.kind a3
                    exact Or.inl ⟨_, _, b4 g z1 z3 v U1 U2 e5 hZ (fun _ => v1) (fun s => absurd s c4), (((q2.trans (if_pos c4)).trans (pf_call_eq v2)).trans (pf_let_eq rfl)).trans (pf_let_eq rfl), ⟨rfl, rfl, by dsimp only; omega, by dsimp only; omega, by dsimp only; omega, k2, p4.fr k3 k4, p5.tr k3, p6.tr k4⟩, by dsimp only; omega⟩
          by_cases c3 : a3 ≤ 3
          · have c4 : ¬ a3 = 4 := by omega
            replace e1 := ((((e1.trans (pf_call_eq ((nf_isKind a3).1 ⟨c2.1, c3⟩))).trans (if_pos (by decide))).trans (pf_call_eq cnt)).trans (if_pos (by omega)))
            obtain ⟨B, hB, e1⟩ := pf_loop e1
            refine sim _ B e1 (fun x k T => ?_)
            have q := (congrFun hB (x, k, T)).trans (pf_let_eq rfl)
            refine ⟨fun s => (q.trans (if_pos s)).trans (pf_let_eq rfl), fun s g hg => ?_⟩
            replace q := (q.trans (if_neg s)).trans (pf_call_eq hg)
            refine ⟨fun t => (q.trans (if_pos t)).trans (pf_let_eq rfl), fun t z1 z2 v T1 T2 m1 m2 m3 m4 => ?_⟩
            exact (((((((((q.trans (if_neg t)).trans (pf_let_eq rfl)).trans (pf_let_eq rfl)).trans (pf_let_eq rfl)).trans (pf_call_eq m1)).trans (pf_call_eq m2)).trans (if_pos c4)).trans (pf_call_eq (m3 c4))).trans (pf_let_eq rfl)).trans (pf_let_eq rfl)
          · have c4 : a3 = 4 := by omega
            replace e1 := (((((e1.trans (pf_call_eq ((nf_isKind a3).2 (by omega)))).trans (if_neg (by decide))).trans (if_neg (fun s => s c4))).trans (pf_call_eq cnt)).trans (if_pos (by omega)))
            obtain ⟨B, hB, e1⟩ := pf_loop e1
            refine sim _ B e1 (fun x k T => ?_)
            have q := (congrFun hB (x, k, T)).trans (pf_let_eq rfl)
            refine ⟨fun s => (q.trans (if_pos s)).trans (pf_let_eq rfl), fun s g hg => ?_⟩
            replace q := (q.trans (if_neg s)).trans (pf_call_eq hg)
            refine ⟨fun t => (q.trans (if_pos t)).trans (pf_let_eq rfl), fun t z1 z2 v T1 T2 m1 m2 m3 m4 => ?_⟩
            exact (((((((((q.trans (if_neg t)).trans (pf_let_eq rfl)).trans (pf_let_eq rfl)).trans (pf_let_eq rfl)).trans (pf_call_eq m1)).trans (pf_call_eq m2)).trans (if_neg (fun s => s c4))).trans (pf_call_eq (m4 c4))).trans (pf_let_eq rfl)).trans (pf_let_eq rfl)
      · replace e2 := (e2.trans (pf_call_eq ((nf_in a3 0 4).2 c2))).trans (if_neg (by decide))
        exact ⟨_, _, _, ((e1.trans (pf_call_eq ((nf_isKind a3).2 (by omega)))).trans (if_neg (by decide))).trans (if_pos (by omega)), e2, trivial⟩
    · exact ⟨_, _, _, (e1.trans (pf_call_eq ((nf_isLandOrAll a2).2 c1))).trans (if_pos (by decide)), (e2.trans (pf_call_eq ((nf_in a2 (-1) 3).2 c1))).trans (if_pos (by decide)), trivial⟩
  · exact ⟨_, _, _, (e1.trans (pf_call_eq ((nf_isLaw a1).2 cl))).trans (if_pos (by decide)), (e2.trans (pf_call_eq ((nf_isLawR a1).2 cl))).trans (if_pos (by decide)), trivial⟩
section MA6
variable {V : pm_M}
theorem mA_of (_ : (V 0 8 = 45 ∧ V 45 0 = 0) ∨ (V 0 8 = 51 ∧ V 51 0 = 0)) (_ : V 4 1 = 0) (h6 : V 4 6 = 0) (_ : V 15 0 = 0) (_ : V 25 0 = 0) (_ : V 35 0 = 0) (a1 a2 : Int) : F_X11_of a1 a2 V = ((-2147483648), V) :=
  ((F_X11_of_eq a1 a2 V).trans (pf_call_eq ((nf_isAnswer a1).2 (by omega)))).trans (if_neg (by decide))
theorem mA_count {V : pm_M} (h6 : V 4 6 = 0) (a : Int) : F_X11_countOfLand a V = (0, V) := by
  have e := F_X11_countOfLand_eq a V
  obtain ⟨B, hB, e⟩ := pf_loop e
  have q := ((congrFun hB (0, 0)).trans (pf_let_eq h6)).trans (if_pos (by decide))
  exact e.trans (pf_val_inr q)
theorem mA_share (_ : (V 0 8 = 45 ∧ V 45 0 = 0) ∨ (V 0 8 = 51 ∧ V 51 0 = 0)) (_ : V 4 1 = 0) (h6 : V 4 6 = 0) (_ : V 15 0 = 0) (_ : V 25 0 = 0) (_ : V 35 0 = 0) (a1 a2 : Int) : F_X11_share a1 a2 V = (-1, V) := by
  have e1 := F_X11_share_eq a1 a2 V
  by_cases c1 : -1 ≤ a1 ∧ a1 ≤ 3
  · replace e1 := (e1.trans (pf_call_eq ((nf_isLandOrAll a1).1 c1))).trans (if_neg (by decide))
    by_cases c2 : 0 ≤ a2 ∧ a2 ≤ 3
    · exact (((e1.trans (pf_call_eq ((nf_isKind a2).1 c2))).trans (if_pos (by decide))).trans (pf_call_eq (mA_count h6 a1))).trans (if_neg (by decide))
    · replace e1 := (e1.trans (pf_call_eq ((nf_isKind a2).2 c2))).trans (if_neg (by decide))
      by_cases c4 : a2 = 4
      · exact ((e1.trans (if_neg (fun s => s c4))).trans (pf_call_eq (mA_count h6 a1))).trans (if_neg (by decide))
      · exact e1.trans (if_pos c4)
  · exact (e1.trans (pf_call_eq ((nf_isLandOrAll a1).2 c1))).trans (if_pos (by decide))
theorem mA_foretold (_ : (V 0 8 = 45 ∧ V 45 0 = 0) ∨ (V 0 8 = 51 ∧ V 51 0 = 0)) (_ : V 4 1 = 0) (h6 : V 4 6 = 0) (_ : V 15 0 = 0) (_ : V 25 0 = 0) (_ : V 35 0 = 0) (a1 a2 a3 : Int) : F_X11_foretold a1 a2 a3 V = (-1, V) := by
  have e1 := F_X11_foretold_eq a1 a2 a3 V
  by_cases cl : 0 ≤ a1 ∧ a1 ≤ 6
  · replace e1 := (e1.trans (pf_call_eq ((nf_isLaw a1).1 cl))).trans (if_neg (by decide))
    by_cases c1 : -1 ≤ a2 ∧ a2 ≤ 3
    · replace e1 := (e1.trans (pf_call_eq ((nf_isLandOrAll a2).1 c1))).trans (if_neg (by decide))
      by_cases c2 : 0 ≤ a3 ∧ a3 ≤ 3
      · exact (((e1.trans (pf_call_eq ((nf_isKind a3).1 c2))).trans (if_pos (by decide))).trans (pf_call_eq (mA_count h6 a2))).trans (if_neg (by decide))
      · replace e1 := (e1.trans (pf_call_eq ((nf_isKind a3).2 c2))).trans (if_neg (by decide))
        by_cases c4 : a3 = 4
        · exact ((e1.trans (if_neg (fun s => s c4))).trans (pf_call_eq (mA_count h6 a2))).trans (if_neg (by decide))
        · exact e1.trans (if_pos c4)
    · exact (e1.trans (pf_call_eq ((nf_isLandOrAll a2).2 c1))).trans (if_pos (by decide))
  · exact (e1.trans (pf_call_eq ((nf_isLaw a1).2 cl))).trans (if_pos (by decide))
end MA6
