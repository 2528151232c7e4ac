/-! WEIGHTS: parted and next on both sides -/
set_option maxHeartbeats 4000000 in
theorem wz_parted {c : Nat} {n a b : Int} {V W : pm_M} (h : wr c n V W) (ho : wo V) (la : 0 ≤ a ∧ a ≤ 6) (lb : 0 ≤ b ∧ b ≤ 6) : ∃ y Z X, F_X10_partedBy a b V = (y, Z) ∧ F_X12_partedNow a b W = (y, X) ∧ gC V Z ∧ gR W X ∧ wo Z := by
  obtain ⟨z1, V2, hZ⟩ : ∃ y Y, F_X10_weigh a V = (y, Y) := ⟨_, _, rfl⟩
  obtain ⟨z2, W2, hX⟩ : ∃ y Y, F_X12_weighs a W = (y, Y) := ⟨_, _, rfl⟩
  obtain ⟨k1, f1⟩ := ww_weigh h la hZ hX
  obtain ⟨big1, big2⟩ := rw_big h la hX
  have ho2 := ho.fC f1.C
  obtain ⟨w0, ⟨hc, hw0, h0, h13, hcn, -⟩, hn, w16, wj, t1, t2, -, -, -⟩ := k1.get
  have T1e := k1.2.2.2.1
  obtain ⟨w, u, hw, hu, h13w, h15u⟩ : ∃ w u : Nat, (w = 76 ∧ u = 77 ∨ w = 77 ∧ u = 76) ∧ (u = 76 ∨ u = 77) ∧ V2 73 13 = (w : Int) ∧ V2 73 15 = (u : Int) := by
    rcases ho2 with ⟨q1, q2⟩ | ⟨q1, q2⟩
    · exact ⟨76, 77, Or.inl ⟨rfl, rfl⟩, Or.inr rfl, q1, q2⟩
    · exact ⟨77, 76, Or.inr ⟨rfl, rfl⟩, Or.inl rfl, q1, q2⟩
  have ew : w0 = w := by omega
  subst ew
  obtain ⟨V3, hV3⟩ : ∃ V3, V3 = pm_up (pm_up V2 73 13 (u : Int)) 73 15 (w0 : Int) := ⟨_, rfl⟩
  have v3c : ∀ k i, k ≠ 73 → V3 k i = V2 k i := fun k i q => by rw [hV3, pm_up_c q, pm_up_c q]
  have v313 : V3 73 13 = (u : Int) := by rw [hV3, pm_up_i (by decide), pm_up_s]
  have v315 : V3 73 15 = (w0 : Int) := by rw [hV3, pm_up_s]
  obtain ⟨z3, V4, hZ4⟩ : ∃ y Y, F_X10_weigh b V3 = (y, Y) := ⟨_, _, rfl⟩
  have e1 := (F_X10_partedBy_eq a b V).trans (pf_call_eq hZ)
  have e2 := (((F_X12_partedNow_eq a b W).trans (pf_let_eq rfl)).trans (pf_let_eq rfl)).trans (pf_call_eq hX)
  replace e2 := e2.trans (pf_let_eq rfl)
  obtain ⟨T1, hT1⟩ : ∃ T1, W2 90 51 = T1 := ⟨_, rfl⟩
  rw [hT1] at e2 big1 big2 t1 t2 T1e
  obtain ⟨C, hC, e2⟩ := pf_loop e2
  -- the second weighing, once the reference has copied its row
  have second : ∀ U : pm_M, (∀ k i, k ≠ 115 → U k i = W2 k i) → (∀ j : Nat, (j : Int) < n → U 115 j = W2 112 j) → ∀ (z4 : Int) (W4 : pm_M), F_X12_weighs b U = (z4, W4) → wx c n V4 W4 ∧ wfz V3 V4 U W4 ∧ gR W W4 ∧ W4 90 51 ≤ 341067024 ∧ ((T1 ≤ 2368521 ∨ W4 90 51 ≤ 2368521) ∨ ∀ j : Nat, (j : Int) < n → W2 112 j = W4 112 j) := by
    intro U hU hU2 z4 W4 hX4
    have r0 : wr c n V3 U := by
      rw [hV3]
      exact (k1.1.R115 hU).w13 hu
    obtain ⟨k2, f2⟩ := ww_weigh r0 lb hZ4 hX4
    obtain ⟨c1, c2⟩ := rw_big r0 lb hX4
    have gU : gR W U := f1.R.g.tr ⟨fun k _ _ _ _ q5 => funext fun i => hU k i q5, fun i _ => hU 90 i (by decide)⟩
    refine ⟨k2, f2, gU.tr f2.R.g, c1, ?_⟩
    rcases big2 with q | q
    · exact Or.inl (Or.inl q)
    · rcases c2 with q2 | q2
      · exact Or.inl (Or.inr q2)
      · refine Or.inr fun j hj => ?_
        rw [q j hj, q2 j hj]
        have uw : ∀ k i, k ≠ 115 → k ≠ 112 → ¬ (k = 90 ∧ i = 51) → U k i = W k i := fun k i q1 q2 q3 => (hU k i q1).trans (f1.2 k i q2 q3)
        unfold od
        rw [uw 90 47 (by decide) (by decide) (by decide), uw 90 45 (by decide) (by decide) (by decide), uw 110 j (by decide) (by decide) (by omega), uw 111 j (by decide) (by decide) (by omega)]
  -- the class's side
  obtain ⟨T2, hT2⟩ : ∃ T2, V4 73 14 = T2 := ⟨_, rfl⟩
  have f2w : ∀ i, V4 w0 i = V2 w0 i := by
    obtain ⟨z4, W4, hX4⟩ : ∃ y Y, F_X12_weighs b (fun k i => if k = 115 then W2 112 i else W2 k i) = (y, Y) := ⟨_, _, rfl⟩
    obtain ⟨-, f2, -⟩ := second (fun k i => if k = 115 then W2 112 i else W2 k i) (fun k i q => if_neg q) (fun j _ => if_pos rfl) z4 W4 hX4
    intro i
    rw [f2.1.2 w0 i (by omega) (by rw [v313]; omega), v3c w0 i (by omega)]
  have CC : ∃ W4 : pm_M, wx c n V4 W4 ∧ W4 90 51 ≤ 341067024 ∧ ((T1 ≤ 2368521 ∨ W4 90 51 ≤ 2368521) ∨ ∀ j : Nat, (j : Int) < n → W2 112 j = W4 112 j) ∧ gC V2 V4 ∧ wo V4 := by
    obtain ⟨z4, W4, hX4⟩ : ∃ y Y, F_X12_weighs b (fun k i => if k = 115 then W2 112 i else W2 k i) = (y, Y) := ⟨_, _, rfl⟩
    obtain ⟨k2, f2, -, c1, c2⟩ := second (fun k i => if k = 115 then W2 112 i else W2 k i) (fun k i q => if_neg q) (fun j _ => if_pos rfl) z4 W4 hX4
    refine ⟨W4, k2, c1, c2, fun k i q => (f2.C k i (Or.inl q)).trans (v3c k i (by omega)), ?_⟩
    have o3 : wo V3 := by
      unfold wo
      rw [v313, v315]
      omega
    exact o3.fC f2.C
  obtain ⟨Wx, kx, bx1, bx2, gx, ox⟩ := CC
  have kx' := kx
  obtain ⟨u0, ⟨-, hu0, g0, g13, gcn, -⟩, -, -, uj, s1, s2, -, -, -⟩ := kx'.get
  have eu : u0 = u := by
    have q : V4 73 13 = (u : Int) := by
      rcases ox with ⟨p1, p2⟩ | ⟨p1, p2⟩
      all_goals (
        obtain ⟨z4, W4, hX4⟩ : ∃ y Y, F_X12_weighs b (fun k i => if k = 115 then W2 112 i else W2 k i) = (y, Y) := ⟨_, _, rfl⟩
        obtain ⟨-, f2, -⟩ := second (fun k i => if k = 115 then W2 112 i else W2 k i) (fun k i q => if_neg q) (fun j _ => if_pos rfl) z4 W4 hX4
        exact (f2.C 73 13 (Or.inr ⟨rfl, Or.inl rfl⟩)).trans v313)
    omega
  subst eu
  rw [hT2] at s1
  have T2e : T2 = wk_S (Wx 112) n.toNat := s1.trans kx.2.2.2.1
  rw [← s1] at bx1 bx2 s2
  have eqC : F_X10_partedBy a b V = ((if wk_S (pt_G (W2 112) (Wx 112) T1 T2) n.toNat = (2 * T1) * T2 then 1000 else 1000 * wk_S (pt_G (W2 112) (Wx 112) T1 T2) n.toNat / ((2 * T1) * T2)), V4) := by
    have fin : ∀ (d : Int × pm_M) (B : Int × Int → (Int × Int) ⊕ (Int × pm_M)), F_X10_partedBy a b V = pf_val d B (0, 0) → (∀ x1 x3 : Int, 0 ≤ x3 → (n ≤ x3 → B (x1, x3) = pf_call (F_X11_ofThousand x1 (pm_w64 (pm_w64 (2 * V4 73 14) * V2 73 14)) V4) fun y _ => .inr (y, V4)) ∧ (x3 < n → B (x1, x3) = .inl (pm_w64 (x1 + pm_abL (pm_w64 (pm_w64 (V4 u0 x3.toNat * V2 73 14) - pm_w64 (V4 w0 x3.toNat * V4 73 14)))), x3 + 1))) → F_X10_partedBy a b V = ((if wk_S (pt_G (W2 112) (Wx 112) T1 T2) n.toNat = (2 * T1) * T2 then 1000 else 1000 * wk_S (pt_G (W2 112) (Wx 112) T1 T2) n.toNat / ((2 * T1) * T2)), V4) := by
      intro d B r hB
      rw [r]
      refine pt_C hn (fun j hj => (wj j hj).2) (fun j hj => (uj j hj).2) T1e T2e ⟨t2, big1⟩ ⟨s2, bx1⟩ bx2 (fun x1 x3 a0 => ?_)
      obtain ⟨q1, q2⟩ := hB x1 x3 a0
      rw [hT2, t1] at q1
      refine ⟨q1, fun z => ?_⟩
      have q3 := q2 z
      rw [hT2, t1, (uj x3.toNat (by omega)).1, f2w, (wj x3.toNat (by omega)).1] at q3
      exact q3
    rcases hw with ⟨rfl, rfl⟩ | ⟨rfl, rfl⟩
    · have i13 : V2 73 13 = 76 := h13w
      have i15 : V2 73 15 = 77 := h15u
      have e3 := ((e1.trans (if_pos i13)).trans (if_neg (show ¬ V2 73 15 = 76 by omega))).trans (pf_let_eq rfl)
      rw [hV3] at hZ4
      replace e3 := e3.trans (pf_call_eq hZ4)
      obtain ⟨B, hB, e3⟩ := pf_loop e3
      refine fin _ B e3 (fun x1 x3 a0 => ?_)
      have q := congrFun hB (x1, x3)
      simp only [] at q
      rcases hc with rfl | rfl
      · have j0 : V4 73 0 = 45 := g0
        replace q := (q.trans (if_pos j0)).trans (pf_let_eq rfl)
        refine ⟨fun z => (((q.trans (if_pos (show V4 45 0 ≤ x3 by omega))).trans (pf_let_eq rfl)).trans (pf_let_eq rfl)).trans (pf_let_eq rfl), fun z => ?_⟩
        exact (((((((((q.trans (if_neg (show ¬ V4 45 0 ≤ x3 by omega))).trans (pf_let_eq rfl)).trans (pf_let_eq rfl)).trans (pf_let_eq rfl)).trans (pf_let_eq rfl)).trans (pf_let_eq rfl)).trans (pf_let_eq rfl)).trans (pf_let_eq rfl)).trans (pf_let_eq rfl)).trans (pf_let_eq rfl)
      · have j0 : V4 73 0 = 51 := g0
        replace q := (q.trans (if_neg (show ¬ V4 73 0 = 45 by omega))).trans (pf_let_eq rfl)
        refine ⟨fun z => (((q.trans (if_pos (show V4 51 0 ≤ x3 by omega))).trans (pf_let_eq rfl)).trans (pf_let_eq rfl)).trans (pf_let_eq rfl), fun z => ?_⟩
        exact (((((((((q.trans (if_neg (show ¬ V4 51 0 ≤ x3 by omega))).trans (pf_let_eq rfl)).trans (pf_let_eq rfl)).trans (pf_let_eq rfl)).trans (pf_let_eq rfl)).trans (pf_let_eq rfl)).trans (pf_let_eq rfl)).trans (pf_let_eq rfl)).trans (pf_let_eq rfl)).trans (pf_let_eq rfl)
    · have i13 : V2 73 13 = 77 := h13w
      have i15 : V2 73 15 = 76 := h15u
      have e3 := ((e1.trans (if_neg (show ¬ V2 73 13 = 76 by omega))).trans (if_pos i15)).trans (pf_let_eq rfl)
      rw [hV3] at hZ4
      replace e3 := e3.trans (pf_call_eq hZ4)
      obtain ⟨B, hB, e3⟩ := pf_loop e3
      refine fin _ B e3 (fun x1 x3 a0 => ?_)
      have q := congrFun hB (x1, x3)
      simp only [] at q
      rcases hc with rfl | rfl
      · have j0 : V4 73 0 = 45 := g0
        replace q := (q.trans (if_pos j0)).trans (pf_let_eq rfl)
        refine ⟨fun z => (((q.trans (if_pos (show V4 45 0 ≤ x3 by omega))).trans (pf_let_eq rfl)).trans (pf_let_eq rfl)).trans (pf_let_eq rfl), fun z => ?_⟩
        exact (((((((((q.trans (if_neg (show ¬ V4 45 0 ≤ x3 by omega))).trans (pf_let_eq rfl)).trans (pf_let_eq rfl)).trans (pf_let_eq rfl)).trans (pf_let_eq rfl)).trans (pf_let_eq rfl)).trans (pf_let_eq rfl)).trans (pf_let_eq rfl)).trans (pf_let_eq rfl)).trans (pf_let_eq rfl)
      · have j0 : V4 73 0 = 51 := g0
        replace q := (q.trans (if_neg (show ¬ V4 73 0 = 45 by omega))).trans (pf_let_eq rfl)
        refine ⟨fun z => (((q.trans (if_pos (show V4 51 0 ≤ x3 by omega))).trans (pf_let_eq rfl)).trans (pf_let_eq rfl)).trans (pf_let_eq rfl), fun z => ?_⟩
        exact (((((((((q.trans (if_neg (show ¬ V4 51 0 ≤ x3 by omega))).trans (pf_let_eq rfl)).trans (pf_let_eq rfl)).trans (pf_let_eq rfl)).trans (pf_let_eq rfl)).trans (pf_let_eq rfl)).trans (pf_let_eq rfl)).trans (pf_let_eq rfl)).trans (pf_let_eq rfl)).trans (pf_let_eq rfl)
  -- the reference's side
  have key := pf_val_ind2 (d := ((0 : Int), W)) (b := C) (fun s => 0 ≤ s.1 ∧ (∀ k i, k ≠ 115 → s.2 k i = W2 k i) ∧ ∀ j : Nat, (j : Int) < s.1 → s.2 115 j = W2 112 j) (fun r => r.1 = (if wk_S (pt_G (W2 112) (Wx 112) T1 T2) n.toNat = (2 * T1) * T2 then 1000 else 1000 * wk_S (pt_G (W2 112) (Wx 112) T1 T2) n.toNat / ((2 * T1) * T2)) ∧ gR W r.2) (fun s => (n - s.1).toNat) ?_ (0, W2) ⟨Int.le_refl _, fun _ _ _ => rfl, fun j hj => absurd hj (by dsimp only; omega)⟩
  · rw [← e2] at key
    exact ⟨_, V4, (F_X12_partedNow a b W).2, eqC, Prod.ext key.1 rfl, f1.C.g.tr gx, key.2, ox⟩
  · rintro ⟨x, U⟩ ⟨p0, p1, p2⟩
    dsimp only at p0 p1 p2
    have q := congrFun hC (x, U)
    simp only [] at q
    have u16 : U 90 16 = n := (p1 90 16 (by decide)).trans w16
    replace q := q.trans (pf_let_eq u16)
    by_cases cx : n ≤ x
    · replace q := q.trans (if_pos cx)
      obtain ⟨z4, W4, hX4⟩ : ∃ y Y, F_X12_weighs b U = (y, Y) := ⟨_, _, rfl⟩
      obtain ⟨k2, f2, g2, c1, c2⟩ := second U p1 (fun j hj => p2 j (by omega)) z4 W4 hX4
      have k2' := k2
      obtain ⟨u1, ⟨-, hu1, -, g13', -, -⟩, -, x16, uj1, r1, r2, -, -, -⟩ := k2'.get
      have eu1 : u1 = u0 := by omega
      subst eu1
      have same : ∀ j : Nat, (j : Int) < n → W4 112 j = Wx 112 j := fun j hj => (uj1 j hj).1.symm.trans (uj j hj).1
      have T4 : W4 90 51 = T2 := r1.symm.trans hT2
      have GG : wk_S (pt_G (W2 112) (W4 112) T1 T2) n.toNat = wk_S (pt_G (W2 112) (Wx 112) T1 T2) n.toNat := wk_S_eq _ fun j hj => by
        unfold pt_G
        rw [same j (by omega)]
      rw [T4] at c1 c2
      have T4e : T2 = wk_S (W4 112) n.toNat := T4.symm.trans k2.2.2.2.1
      replace q := q.trans (pf_call_eq hX4)
      obtain ⟨B2, hB2, q⟩ := pf_loop q
      have R := pt_R (d := (Sum.inr ((0 : Int), W) : (Int × pm_M) ⊕ (Int × pm_M))) (fin := fun v => Sum.inr (v, W4)) (B := B2) hn (fun j hj => (wj j hj).2) (fun j hj => (uj1 j hj).2) T1e T4e ⟨t2, big1⟩ ⟨s2, bx1⟩ c2 (fun x1 x3 a0 => by
        have r := congrFun hB2 (x1, x3)
        simp only [] at r
        refine ⟨fun z => ?_, fun z => ?_⟩
        · replace r := ((r.trans (if_pos z)).trans (pf_let_eq T4)).trans (pf_let_eq rfl)
          replace r := r.trans (pf_let_eq rfl)
          refine ⟨fun g => r.trans (if_neg (fun s => s (pm_cmp_eq0.mpr g))), fun g g0' g1' => ?_⟩
          replace r := r.trans (if_pos (fun s => g (pm_cmp_eq0.mp s)))
          obtain ⟨B3, hB3, r⟩ := pf_loop r
          refine r.trans (dg_3 (fin := fun v => Sum.inr (Sum.inr (v, W4))) ⟨g0', g1'⟩ ?_ (fun i j k => congrFun hB3 (i, j, k)))
          have pn := pt_num hn (fun j hj => (wj j hj).2) (fun j hj => (uj1 j hj).2) T1e T4e ⟨t2, big1⟩ ⟨s2, bx1⟩ c2
          omega
        · have wp : W4 115 x3.toNat = W2 112 x3.toNat := (f2.2 115 x3.toNat (by decide) (by omega)).trans (p2 x3.toNat (by omega))
          replace r := (((((r.trans (if_neg (show ¬ n ≤ x3 by omega))).trans (pf_let_eq wp)).trans (pf_let_eq T4)).trans (pf_let_eq rfl)).trans (pf_let_eq rfl)).trans (pf_let_eq rfl)
          replace r := r.trans (pf_let_eq rfl)
          unfold wk_a
          by_cases g : 0 ≤ W2 112 x3.toNat * T2 - W4 112 x3.toNat * T1
          · rw [if_pos g]
            exact (r.trans (if_pos (pm_cmp_ge0.mpr g))).trans (pf_let_eq rfl)
          · rw [if_neg g]
            exact (r.trans (if_neg (fun s => g (pm_cmp_ge0.mp s)))).trans (pf_let_eq rfl))
      rw [GG] at R
      exact Or.inr ⟨_, q.trans R, rfl, g2⟩
    · replace q := ((q.trans (if_neg cx)).trans (pf_let_eq rfl)).trans (pf_let_eq rfl)
      rw [p1 112 x.toNat (by decide)] at q
      refine Or.inl ⟨_, q, ⟨by dsimp only; omega, fun k i hk => ?_, fun j hj => ?_⟩, by dsimp only; omega⟩
      · dsimp only
        rw [pm_up_c hk]
        exact p1 k i hk
      · dsimp only at hj ⊢
        rw [up_at]
        by_cases ej : j = x.toNat
        · rw [if_pos ej, ej]
        · rw [if_neg ej]
          exact p2 j (by omega)
