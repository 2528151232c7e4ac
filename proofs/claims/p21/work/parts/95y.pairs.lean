/-! WEIGHTS: pairs -/
theorem pz_pair {U Y : pm_M} (h : wq U Y) {a1 a2 a3 a4 v f : Int} (hl : 0 ≤ a1 % 10 ∧ a1 % 10 ≤ 6) (hp : 0 ≤ a2 ∧ a2 < Y 90 23) (hs : 0 ≤ a3 ∧ a3 ≤ 99) (hl4 : -99 ≤ a4 ∧ a4 ≤ 99) (hv : 0 ≤ v ∧ v < Y 90 16) (hf : 0 ≤ f ∧ f < Y 90 16) : (v = f → F_X11_isPair a1 (((a2 * 100) + (v * 10)) + f) a3 a4 U = (0, U)) ∧ (¬ v = f → ∃ m u1 u2 Y1 Z X, F_X12_works (((100 * a2) + (10 * v)) + f) a3 a4 Y = (u1, Y1) ∧ F_X12_weighs (a1 % 10) Y1 = (u2, X) ∧ F_X12_likeliest X = (m, X) ∧ wq Z X ∧ fR Y X ∧ ((kk v f m = a1 / 10 → F_X11_isPair a1 (((a2 * 100) + (v * 10)) + f) a3 a4 U = (1, Z)) ∧ (¬ kk v f m = a1 / 10 → F_X11_isPair a1 (((a2 * 100) + (v * 10)) + f) a3 a4 U = (0, Z))) ∧ F_X12_kindOf m X = (kk v f m, X)) := by
  have bn := h.2.2.1.1
  have b23 := h.2.2.1.2.2.2.1
  have ew : ((a2 * 100) + (v * 10)) + f = ((100 * a2) + (10 * v)) + f := by omega
  rw [ew]
  obtain ⟨g0, g1, g2, g3⟩ := pm_wvf (a := a2) (v := v) (f := f) ⟨hp.1, by omega⟩ ⟨hv.1, by omega⟩ ⟨hf.1, by omega⟩
  have g4 : (100 * a2 + 10 * v + f) / 100 = a2 := by omega
  have e := F_X11_isPair_eq a1 (((100 * a2) + (10 * v)) + f) a3 a4 U
  rw [g2, g3] at e
  refine ⟨fun q => e.trans (if_neg (fun r => r q)), fun q => ?_⟩
  obtain ⟨u0, U1, hV⟩ : ∃ y Z, F_X11_pose (((100 * a2) + (10 * v)) + f) a3 a4 U = (y, Z) := ⟨_, _, rfl⟩
  obtain ⟨u1, Y1, hW⟩ : ∃ y Z, F_X12_works (((100 * a2) + (10 * v)) + f) a3 a4 Y = (y, Z) := ⟨_, _, rfl⟩
  obtain ⟨u3, Z, hZ⟩ : ∃ y Z, F_X10_weigh (a1 % 10) U1 = (y, Z) := ⟨_, _, rfl⟩
  obtain ⟨u2, X, hX⟩ : ∃ y Z, F_X12_weighs (a1 % 10) Y1 = (y, Z) := ⟨_, _, rfl⟩
  obtain ⟨c, -, k1, k2, -, k4, x48, x49⟩ := wz_trial h hl g0 (by rw [g4]; exact hp.2) (by rw [g3]; exact hv.2) (by rw [g2]; exact hf.2) hs hl4 hV hW hZ hX
  rw [g3] at x48
  rw [g2] at x49
  obtain ⟨m, m1, m2, -, -⟩ := k1.ml
  replace e := ((((e.trans (if_pos q)).trans (pf_call_eq hV)).trans (pf_call_eq hZ)).trans (pf_call_eq m1)).trans (pf_call_eq (kk_C v f m Z))
  have kr := kk_R m X
  rw [x48, x49] at kr
  exact ⟨m, u1, u2, Y1, Z, X, hW, hX, m2, k2, k4, ⟨fun r => e.trans (if_neg (fun s => s r)), fun r => e.trans (if_pos r)⟩, kr⟩
theorem pz_less {W : pm_M} {n a1 a2 a3 a4 a5 : Int} (ha : a5 < -1) {d : Int × pm_M} {e : (Int × Int × pm_M) ⊕ (Int × pm_M)} {C : Int × Int × pm_M → (Int × Int × pm_M) ⊕ (Int × pm_M)} {I : Int → Int × Int × pm_M → (Int × Int × pm_M) ⊕ ((Int × Int × pm_M) ⊕ (Int × pm_M))} (hC : ∀ (x j : Int) (U : pm_M), C (x, j, U) = if n ≤ j then (if ¬ (a5 = -1) then .inr (-1, U) else .inr (x, U)) else pf_val e (I j) (x, 0, U)) (hI : ∀ (j x k : Int) (U : pm_M), I j (x, k, U) = if n ≤ k then .inr (.inl (x, j + 1, U)) else if ¬ (j = k) then (pf_call (F_X12_works (((100 * a2) + (10 * j)) + k) a3 a4 U) fun _ V70 => pf_call (F_X12_weighs (a1 % 10) V70) fun _ V88 => pf_call (F_X12_likeliest V88) fun y107 _ => pf_call (F_X12_kindOf y107 V88) fun y113 _ => (if y113 = (a1 / 10) then (if ¬ (x = a5) then .inl (x + 1, k + 1, V88) else .inr (.inr ((10 * j) + k, V88))) else .inl (x, k + 1, V88))) else .inl (x, k + 1, U)) : (pf_val d C (0, 0, W)).1 = -1 := by
  refine pf_val_ind2 (d := d) (b := C) (fun s => 0 ≤ s.1 ∧ 0 ≤ s.2.1) (fun o => o.1 = -1) (fun s => (n - s.2.1).toNat) ?_ (0, 0, W) ⟨Int.le_refl _, Int.le_refl _⟩
  rintro ⟨x, j, U⟩ ⟨p0, p1⟩
  dsimp only at p0 p1
  have q := hC x j U
  by_cases c : n ≤ j
  · exact Or.inr ⟨_, (q.trans (if_pos c)).trans (if_pos (show ¬ a5 = -1 by omega)), rfl⟩
  · replace q := q.trans (if_neg c)
    have key := pf_val_ind2 (d := e) (b := I j) (fun s => 0 ≤ s.1) (fun o => ∃ s : Int × Int × pm_M, o = .inl s ∧ 0 ≤ s.1 ∧ s.2.1 = j + 1) (fun s => (n - s.2.1).toNat) ?_ (x, 0, U) p0
    · obtain ⟨s, k1, k2, k3⟩ := key
      rw [k1] at q
      exact Or.inl ⟨s, q, ⟨k2, by omega⟩, by dsimp only; omega⟩
    · rintro ⟨y, k, Y⟩ r0
      dsimp only at r0
      have r := hI j y k Y
      by_cases c1 : n ≤ k
      · exact Or.inr ⟨_, r.trans (if_pos c1), _, rfl, r0, rfl⟩
      · replace r := r.trans (if_neg c1)
        by_cases c2 : j = k
        · exact Or.inl ⟨_, r.trans (if_neg (fun z => z c2)), r0, by dsimp only; omega⟩
        · replace r := r.trans (if_pos c2)
          obtain ⟨w1, Y1, h1⟩ : ∃ w Z, F_X12_works (((100 * a2) + (10 * j)) + k) a3 a4 Y = (w, Z) := ⟨_, _, rfl⟩
          obtain ⟨w2, Y2, h2⟩ : ∃ w Z, F_X12_weighs (a1 % 10) Y1 = (w, Z) := ⟨_, _, rfl⟩
          obtain ⟨w3, Y3, h3⟩ : ∃ w Z, F_X12_likeliest Y2 = (w, Z) := ⟨_, _, rfl⟩
          obtain ⟨w4, Y4, h4⟩ : ∃ w Z, F_X12_kindOf w3 Y2 = (w, Z) := ⟨_, _, rfl⟩
          replace r := (((r.trans (pf_call_eq h1)).trans (pf_call_eq h2)).trans (pf_call_eq h3)).trans (pf_call_eq h4)
          by_cases c3 : w4 = a1 / 10
          · exact Or.inl ⟨_, (r.trans (if_pos c3)).trans (if_pos (show ¬ y = a5 by omega)), by dsimp only; omega, by dsimp only; omega⟩
          · exact Or.inl ⟨_, r.trans (if_neg c3), r0, by dsimp only; omega⟩
theorem mB_pairs {V W : pm_M} (h : wq V W) (a1 a2 a3 a4 a5 : Int) : ∃ y V1 W1, F_X11_pairs a1 a2 a3 a4 a5 V = (y, V1) ∧ F_X12_pairs a1 a2 a3 a4 a5 W = (y, W1) ∧ True := by
  have h5 := h.1.2.2.2.2.1
  have e1 := F_X11_pairs_eq a1 a2 a3 a4 a5 V
  have e2 := (F_X12_pairs_eq a1 a2 a3 a4 a5 W).trans (pf_let_eq rfl)
  obtain ⟨n, hn⟩ : ∃ n, W 90 16 = n := ⟨_, rfl⟩
  have bn := h.2.2.1.1
  rw [hn] at bn e2
  by_cases c1 : a1 < 0
  · exact ⟨_, _, _, e1.trans (if_pos c1), e2.trans (if_pos c1), trivial⟩
  replace e1 := e1.trans (if_neg c1)
  replace e2 := e2.trans (if_neg c1)
  by_cases c2 : 3 < a1 / 10
  · exact ⟨_, _, _, (e1.trans (pf_call_eq ((nf_isKind (a1 / 10)).2 (by omega)))).trans (if_pos (by decide)), e2.trans (if_pos c2), trivial⟩
  replace e1 := (e1.trans (pf_call_eq ((nf_isKind (a1 / 10)).1 (by omega)))).trans (if_neg (by decide))
  replace e2 := e2.trans (if_neg c2)
  by_cases cl : 0 ≤ a1 % 10 ∧ a1 % 10 ≤ 6
  · replace e1 := (e1.trans (pf_call_eq ((nf_isLaw (a1 % 10)).1 cl))).trans (if_neg (by decide))
    replace e2 := (e2.trans (pf_call_eq ((nf_isLawR (a1 % 10)).1 cl))).trans (if_neg (by decide))
    by_cases cp : 0 ≤ a2 ∧ a2 < W 90 23
    · replace e2 := (e2.trans (pf_call_eq ((nf_isPersonR a2).1 cp))).trans (if_neg (by decide))
      by_cases cs : (0 ≤ a3 ∧ a3 ≤ 99) ∧ (-99 ≤ a4 ∧ a4 ≤ 99)
      · replace e2 := (e2.trans (pf_call_eq ((nf_isTrialR (100 * a2) a3 a4).1 ⟨by omega, by omega, by omega, by omega, cs.1.1, cs.1.2, cs.2.1, cs.2.2⟩))).trans (if_pos (by decide))
        obtain ⟨C, hC, e2⟩ := pf_loop e2
        by_cases c5 : a5 < -1
        · replace e1 := e1.trans (if_pos c5)
          have z : (F_X12_pairs a1 a2 a3 a4 a5 W).1 = -1 := by
            rw [e2]
            exact pz_less (n := n) (a1 := a1) (a2 := a2) (a3 := a3) (a4 := a4) c5 (I := fun j q => match q with | (x47, x49, V52) => if n ≤ x49 then .inr (.inl (x47, j + 1, V52)) else if ¬ (j = x49) then (pf_call (F_X12_works (((100 * a2) + (10 * j)) + x49) a3 a4 V52) fun _ V70 => pf_call (F_X12_weighs (a1 % 10) V70) fun _ V88 => pf_call (F_X12_likeliest V88) fun y107 _ => pf_call (F_X12_kindOf y107 V88) fun y113 _ => (if y113 = (a1 / 10) then (if ¬ (x47 = a5) then .inl (x47 + 1, x49 + 1, V88) else .inr (.inr ((10 * j) + x49, V88))) else .inl (x47, x49 + 1, V88))) else .inl (x47, x49 + 1, V52)) (fun x j U => congrFun hC (x, j, U)) (fun j x k U => rfl)
          exact ⟨-1, V, (F_X12_pairs a1 a2 a3 a4 a5 W).2, e1, Prod.ext z rfl, trivial⟩
        · replace e1 := ((((((e1.trans (if_neg c5)).trans (pf_call_eq ((nf_isPerson a2).1 (by rw [h5]; exact cp)))).trans (if_neg (by decide))).trans (pf_call_eq ((nf_isSetting a3).1 cs.1))).trans (if_neg (by decide))).trans (pf_call_eq ((nf_isLate a4).1 cs.2))).trans (if_pos (by decide))
          obtain ⟨B, hB, e1⟩ := pf_loop e1
          have key := pf_sim (d := ((0 : Int), V)) (d' := ((0 : Int), W)) (b := B) (b' := C) (fun s t => s.1 = t.1 ∧ s.2.1 = t.2.1 ∧ 0 ≤ t.2.1 ∧ wq s.2.2 t.2.2 ∧ fR W t.2.2) (fun o p => o.1 = p.1) (fun s => (n - s.2.1).toNat) ?_ (0, 0, V) (0, 0, W) ⟨rfl, rfl, Int.le_refl _, h, fR.rf⟩
          · rw [← e1, ← e2] at key
            exact ⟨(F_X11_pairs a1 a2 a3 a4 a5 V).1, (F_X11_pairs a1 a2 a3 a4 a5 V).2, (F_X12_pairs a1 a2 a3 a4 a5 W).2, rfl, Prod.ext key.symm rfl, trivial⟩
          · rintro ⟨x, j, U⟩ ⟨x', j', Y⟩ ⟨rfl, rfl, p0, p1, p2⟩
            dsimp only at p0 p1 p2
            have q1 := congrFun hB (x, j, U)
            have q2 := congrFun hC (x, j, Y)
            simp only [] at q1 q2
            obtain ⟨c, hc, c0, cn⟩ := p1.cc
            rw [p2.2 16 (by omega), hn] at cn
            by_cases cj : n ≤ j
            · replace q2 := q2.trans (if_pos cj)
              have q3 : B (x, j, U) = if ¬ (a5 = -1) then .inr (-1, U) else .inr (x, U) := by
                rcases hc with rfl | rfl
                · exact ((q1.trans (if_pos c0)).trans (pf_let_eq rfl)).trans (if_pos (show U 45 0 ≤ j by omega))
                · exact ((q1.trans (if_neg (show ¬ U 0 8 = 45 by omega))).trans (pf_let_eq rfl)).trans (if_pos (show U 51 0 ≤ j by omega))
              by_cases c6 : a5 = -1
              · exact Or.inr ⟨_, _, q3.trans (if_neg (fun r => r c6)), q2.trans (if_neg (fun r => r c6)), rfl⟩
              · exact Or.inr ⟨_, _, q3.trans (if_pos c6), q2.trans (if_pos c6), rfl⟩
            · replace q2 := q2.trans (if_neg cj)
              obtain ⟨C2, hC2, q2⟩ := pf_loop q2
              have fin : ∀ (d2 : (Int × Int × pm_M) ⊕ (Int × pm_M)) (B2 : Int × Int × pm_M → (Int × Int × pm_M) ⊕ ((Int × Int × pm_M) ⊕ (Int × pm_M))), B (x, j, U) = pf_val d2 B2 (x, 0, U) → (∀ (y k : Int) (T : pm_M), B2 (y, k, T) = if n ≤ k then .inr (.inl (y, j + 1, T)) else pf_call (F_X11_isPair a1 (((a2 * 100) + (j * 10)) + k) a3 a4 T) fun y87 V85 => (if y87 = 0 then (.inl (y, k + 1, V85)) else (if ¬ (y = a5) then (.inl (y + 1, k + 1, V85)) else (.inr (.inr ((j * 10) + k, V85)))))) → (∃ s1 t1, B (x, j, U) = .inl s1 ∧ C (x, j, Y) = .inl t1 ∧ (s1.1 = t1.1 ∧ s1.2.1 = t1.2.1 ∧ 0 ≤ t1.2.1 ∧ wq s1.2.2 t1.2.2 ∧ fR W t1.2.2) ∧ (n - s1.2.1).toNat < (n - j).toNat) ∨ (∃ o p, B (x, j, U) = .inr o ∧ C (x, j, Y) = .inr p ∧ o.1 = p.1) := by
                intro d2 B2 r1 hB2
                have key := pf_sim (d := d2) (d' := (Sum.inr ((0 : Int), W) : (Int × Int × pm_M) ⊕ (Int × pm_M))) (b := B2) (b' := C2) (fun s t => s.1 = t.1 ∧ s.2.1 = t.2.1 ∧ 0 ≤ t.2.1 ∧ wq s.2.2 t.2.2 ∧ fR W t.2.2) (fun o p => (∃ s t : Int × Int × pm_M, o = .inl s ∧ p = .inl t ∧ s.1 = t.1 ∧ s.2.1 = j + 1 ∧ t.2.1 = j + 1 ∧ wq s.2.2 t.2.2 ∧ fR W t.2.2) ∨ (∃ u w : Int × pm_M, o = .inr u ∧ p = .inr w ∧ u.1 = w.1)) (fun s => (n - s.2.1).toNat) ?_ (x, 0, U) (x, 0, Y) ⟨rfl, rfl, Int.le_refl _, p1, p2⟩
                · rw [← r1, ← q2] at key
                  rcases key with ⟨s, t, k1, k2, k3, k4, k5, k6, k7⟩ | ⟨u, w, k1, k2, k3⟩
                  · exact Or.inl ⟨s, t, k1, k2, ⟨k3, k4.trans k5.symm, by omega, k6, k7⟩, by omega⟩
                  · exact Or.inr ⟨u, w, k1, k2, k3⟩
                · rintro ⟨y, k, T⟩ ⟨y', k', S⟩ ⟨rfl, rfl, z0, z1, z2⟩
                  dsimp only at z0 z1 z2
                  have w1 := hB2 y k T
                  have w2 := congrFun hC2 (y, k, S)
                  simp only [] at w2
                  by_cases ck : n ≤ k
                  · exact Or.inr ⟨_, _, w1.trans (if_pos ck), (w2.trans (if_pos ck)).trans (pf_let_eq rfl), Or.inl ⟨_, _, rfl, rfl, rfl, rfl, rfl, z1, z2⟩⟩
                  · replace w1 := w1.trans (if_neg ck)
                    replace w2 := w2.trans (if_neg ck)
                    have s16 : S 90 16 = n := (z2.2 16 (by omega)).trans hn
                    have s23 : S 90 23 = W 90 23 := z2.2 23 (by omega)
                    obtain ⟨g1, g2⟩ := pz_pair z1 (a1 := a1) (a2 := a2) (a3 := a3) (a4 := a4) (v := j) (f := k) cl (by rw [s23]; exact cp) cs.1 cs.2 (by rw [s16]; exact ⟨p0, by omega⟩) (by rw [s16]; exact ⟨z0, by omega⟩)
                    by_cases cjk : j = k
                    · exact Or.inl ⟨_, _, (w1.trans (pf_call_eq (g1 cjk))).trans (if_pos (by decide)), (w2.trans (if_neg (fun r => r cjk))).trans (pf_let_eq rfl), ⟨rfl, rfl, by dsimp only; omega, z1, z2⟩, by dsimp only; omega⟩
                    · obtain ⟨m, u1, u2, Y1, Z, X, k1, k2, k3, k4, k5, ⟨k6, k7⟩, k8⟩ := g2 cjk
                      replace w2 := (((((((w2.trans (if_pos cjk)).trans (pf_call_eq k1)).trans (pf_let_eq rfl)).trans (pf_let_eq rfl)).trans (pf_call_eq k2)).trans (pf_call_eq k3)).trans (pf_call_eq k8))
                      by_cases ckk : kk j k m = a1 / 10
                      · replace w1 := (w1.trans (pf_call_eq (k6 ckk))).trans (if_neg (by decide))
                        replace w2 := w2.trans (if_pos ckk)
                        by_cases ca : y = a5
                        · exact Or.inr ⟨_, _, w1.trans (if_neg (fun r => r ca)), w2.trans (if_neg (fun r => r ca)), Or.inr ⟨_, _, rfl, rfl, by dsimp only; omega⟩⟩
                        · exact Or.inl ⟨_, _, w1.trans (if_pos ca), ((w2.trans (if_pos ca)).trans (pf_let_eq rfl)).trans (pf_let_eq rfl), ⟨rfl, rfl, by dsimp only; omega, k4, z2.tr k5⟩, by dsimp only; omega⟩
                      · exact Or.inl ⟨_, _, (w1.trans (pf_call_eq (k7 ckk))).trans (if_pos (by decide)), (w2.trans (if_neg ckk)).trans (pf_let_eq rfl), ⟨rfl, rfl, by dsimp only; omega, k4, z2.tr k5⟩, by dsimp only; omega⟩
              rcases hc with rfl | rfl
              · have q3 := ((q1.trans (if_pos c0)).trans (pf_let_eq rfl)).trans (if_neg (show ¬ U 45 0 ≤ j by omega))
                obtain ⟨B2, hB2, q4⟩ := pf_loop q3
                refine fin _ B2 q4 (fun y k T => ?_)
                have r := congrFun hB2 (y, k, T)
                rw [cn] at r
                exact r
              · have q3 := ((q1.trans (if_neg (show ¬ U 0 8 = 45 by omega))).trans (pf_let_eq rfl)).trans (if_neg (show ¬ U 51 0 ≤ j by omega))
                obtain ⟨B2, hB2, q4⟩ := pf_loop q3
                refine fin _ B2 q4 (fun y k T => ?_)
                have r := congrFun hB2 (y, k, T)
                rw [cn] at r
                exact r
      · replace e2 := (e2.trans (pf_call_eq ((nf_isTrialR (100 * a2) a3 a4).2 (by omega)))).trans (if_neg (by decide))
        by_cases c5 : a5 < -1
        · exact ⟨_, _, _, e1.trans (if_pos c5), e2, trivial⟩
        · replace e1 := ((e1.trans (if_neg c5)).trans (pf_call_eq ((nf_isPerson a2).1 (by rw [h5]; exact cp)))).trans (if_neg (by decide))
          by_cases c6 : 0 ≤ a3 ∧ a3 ≤ 99
          · exact ⟨_, _, _, (((e1.trans (pf_call_eq ((nf_isSetting a3).1 c6))).trans (if_neg (by decide))).trans (pf_call_eq ((nf_isLate a4).2 (fun r => cs ⟨c6, r⟩)))).trans (if_neg (by decide)), e2, trivial⟩
          · exact ⟨_, _, _, (e1.trans (pf_call_eq ((nf_isSetting a3).2 c6))).trans (if_pos (by decide)), e2, trivial⟩
    · replace e2 := (e2.trans (pf_call_eq ((nf_isPersonR a2).2 cp))).trans (if_pos (by decide))
      by_cases c5 : a5 < -1
      · exact ⟨_, _, _, e1.trans (if_pos c5), e2, trivial⟩
      · exact ⟨_, _, _, ((e1.trans (if_neg c5)).trans (pf_call_eq ((nf_isPerson a2).2 (by rw [h5]; exact cp)))).trans (if_pos (by decide)), e2, trivial⟩
  · exact ⟨_, _, _, (e1.trans (pf_call_eq ((nf_isLaw (a1 % 10)).2 cl))).trans (if_pos (by decide)), (e2.trans (pf_call_eq ((nf_isLawR (a1 % 10)).2 cl))).trans (if_pos (by decide)), trivial⟩
section MA4
variable {V : pm_M}
theorem mA_pairs (_ : (V 0 8 = 45 ∧ V 45 0 = 0) ∨ (V 0 8 = 51 ∧ V 51 0 = 0)) (h5 : V 4 1 = 0) (_ : V 4 6 = 0) (_ : V 15 0 = 0) (_ : V 25 0 = 0) (_ : V 35 0 = 0) (a1 a2 a3 a4 a5 : Int) : F_X11_pairs a1 a2 a3 a4 a5 V = (-1, V) := by
  have e1 := F_X11_pairs_eq a1 a2 a3 a4 a5 V
  by_cases c1 : a1 < 0
  · exact e1.trans (if_pos c1)
  replace e1 := e1.trans (if_neg c1)
  by_cases c2 : 0 ≤ a1 / 10 ∧ a1 / 10 ≤ 3
  · replace e1 := (e1.trans (pf_call_eq ((nf_isKind (a1 / 10)).1 c2))).trans (if_neg (by decide))
    by_cases cl : 0 ≤ a1 % 10 ∧ a1 % 10 ≤ 6
    · replace e1 := (e1.trans (pf_call_eq ((nf_isLaw (a1 % 10)).1 cl))).trans (if_neg (by decide))
      by_cases c5 : a5 < -1
      · exact e1.trans (if_pos c5)
      · exact ((e1.trans (if_neg c5)).trans (pf_call_eq ((nf_isPerson a2).2 (by omega)))).trans (if_pos (by decide))
    · exact (e1.trans (pf_call_eq ((nf_isLaw (a1 % 10)).2 cl))).trans (if_pos (by decide))
  · exact (e1.trans (pf_call_eq ((nf_isKind (a1 / 10)).2 c2))).trans (if_pos (by decide))
end MA4
