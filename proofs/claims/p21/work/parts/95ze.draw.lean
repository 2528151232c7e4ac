/-! ANSWERS DRAWN, on both sides -/
theorem pe_23 {W W1 : pm_M} {y a1 a2 a3 : Int} (hf : F_X12_person a1 a2 a3 W = (y, W1)) : W 90 23 ≤ W1 90 23 := by
  have e := hf.symm.trans (F_X12_person_eq a1 a2 a3 W)
  simp only [pf_let, pf_call] at e
  repeat' split at e
  all_goals (
    obtain ⟨-, rfl⟩ := Prod.mk.inj e
    first | exact Int.le_refl _ | (rw [pm_up_s]; omega))
def wd (V W : pm_M) : Prop := wq V W ∧ ra V W ∧ V 0 16 = W 90 57
theorem wd_lot {V W : pm_M} (h : wq V W) (ha : ra V W) (x : Int) : wd (pm_up V 0 16 x) (pm_up W 90 57 x) := by
  obtain ⟨hq, hp, hb, h13⟩ := h
  have v : ∀ k i, ¬ (k = 0 ∧ i = 16) → pm_up V 0 16 x k i = V k i := fun k i q => up_ne q
  have wc : ∀ k, k ≠ 90 → pm_up W 90 57 x k = W k := fun k q => funext fun i => pm_up_c q
  have wf : ∀ i, i ≠ 57 → pm_up W 90 57 x 90 i = W 90 i := fun i q => pm_up_i q
  refine ⟨⟨?_, ?_, ?_, ?_⟩, ?_, ?_⟩
  · refine (hq.C (V' := pm_up V 0 16 x) fun k i q => v k i (by unfold sq_nd at q; omega)).R (fun i q => wf i ?_) (fun k q => wc k ?_) <;> (rintro rfl; exact absurd q (by decide))
  · refine (hp.C (V' := pm_up V 0 16 x) fun k i q => v k i (by unfold pd at q; omega)).R (fun k q => wc k ?_) <;> (rintro rfl; exact absurd q (by decide))
  · unfold wb at hb ⊢
    rw [wf 16 (by decide), wf 20 (by decide), wf 21 (by decide), wf 23 (by decide), wc 97 (by decide), wc 98 (by decide), wc 100 (by decide)]
    exact hb
  · rw [v 73 13 (by decide)]
    exact h13
  · refine (ha.C (V' := pm_up V 0 16 x) fun k i q => v k i (by unfold ad at q; omega)).R (fun k q => wc k ?_) (wf 25 (by decide)) ?_
    · rintro rfl
      exact absurd q (by decide)
    · rw [wf 23 (by decide)]
      exact Int.le_refl _
  · rw [pm_up_s, pm_up_s]
theorem wd.lot {V W : pm_M} (h : wd V W) (x : Int) : wd (pm_up V 0 16 x) (pm_up W 90 57 x) := wd_lot h.1 h.2.1 x
theorem wd.fr {V W Z X : pm_M} (h : wd V W) (f : fC V Z) (g : fR W X) : wd Z X := by
  refine ⟨h.1.fr f g, ?_, ?_⟩
  · refine (h.2.1.C (V' := Z) fun k i q => f k i (by unfold ad at q; omega)).R (fun k q => g.1 k ?_ ?_ ?_ ?_) (g.2 25 (by omega)) (by rw [g.2 23 (by omega)]; exact Int.le_refl _) <;> (rintro rfl; exact absurd q (by decide))
  · rw [f 0 16 (Or.inl (Or.inl (by decide))), g.2 57 (by omega)]
    exact h.2.2
theorem md_lot {U Y : pm_M} {n : Int} (hn : 1 ≤ n) (e : U 0 16 = Y 90 57) : ∃ v x, F_X11_lotBelow n U = (v, pm_up U 0 16 x) ∧ F_X12_draws n Y = (v, pm_up Y 90 57 x) ∧ 0 ≤ v ∧ v < n := by
  have e1 := (((((F_X11_lotBelow_eq n U).trans (pf_let_eq e)).trans (pf_let_eq rfl)).trans (pf_let_eq rfl)).trans (pf_let_eq rfl)).trans (pf_let_eq rfl)
  replace e1 := (e1.trans (if_pos (pm_cmp_gt0.mpr (by omega)))).trans (pf_let_eq rfl)
  have e2 := (((((F_X12_draws_eq n Y).trans (pf_let_eq rfl)).trans (pf_let_eq rfl)).trans (pf_let_eq rfl)).trans (pf_let_eq rfl)).trans (pf_let_eq rfl)
  exact ⟨_, _, e1, e2, Int.emod_nonneg _ (by omega), Int.emod_lt_of_pos _ (by omega)⟩
theorem wr.lot {c : Nat} {n : Int} {V W : pm_M} (h : wr c n V W) (x : Int) : wr c n (pm_up V 0 16 x) (pm_up W 90 57 x) := by
  obtain ⟨⟨hc, h73, hcn, hwn, h13⟩, ⟨hS, hb⟩, v, s, t, a, hj⟩ := h
  have vc : ∀ k : Nat, k ≠ 0 → pm_up V 0 16 x k = V k := fun k q => funext fun i => pm_up_c q
  have wc : ∀ k : Nat, k ≠ 90 → pm_up W 90 57 x k = W k := fun k q => funext fun i => pm_up_c q
  have wf : ∀ i : Nat, i ≠ 57 → pm_up W 90 57 x 90 i = W 90 i := fun i q => pm_up_i q
  have hb' : wb (pm_up W 90 57 x) := by
    unfold wb at hb ⊢
    rw [wf 16 (by decide), wf 20 (by decide), wf 21 (by decide), wf 23 (by decide), wc 97 (by decide), wc 98 (by decide), wc 100 (by decide)]
    exact hb
  unfold wr
  rw [vc 73 (by decide), vc c (by omega), vc 74 (by decide), vc 75 (by decide), wf 16 (by decide), wf 48 (by decide), wf 49 (by decide), wf 42 (by decide), wf 43 (by decide), wf 47 (by decide), wf 44 (by decide), wf 45 (by decide), wf 46 (by decide), wc 110 (by decide), wc 111 (by decide)]
  exact ⟨⟨hc, h73, hcn, hwn, h13⟩, ⟨hS.eq (vc c (by omega)) (vc (c + 1) (by omega)) (vc (c + 2) (by omega)) (vc (c + 3) (by omega)) (vc (c + 4) (by omega)) (vc (c + 5) (by omega)) (wf 16 (by decide)) (wf 19 (by decide)) (wf 20 (by decide)) (wf 21 (by decide)) (wc 97 (by decide)) (wc 98 (by decide)) (wc 99 (by decide)), hb'⟩, v, s, t, a, hj⟩
theorem wx.lot {c : Nat} {n : Int} {V W : pm_M} (h : wx c n V W) (x : Int) : wx c n (pm_up V 0 16 x) (pm_up W 90 57 x) := by
  obtain ⟨h0, hj, t1, t2, t3⟩ := h
  have h13 := h0.1.2.2.2.2
  have vc : ∀ k : Nat, k ≠ 0 → pm_up V 0 16 x k = V k := fun k q => funext fun i => pm_up_c q
  have wc : ∀ k : Nat, k ≠ 90 → pm_up W 90 57 x k = W k := fun k q => funext fun i => pm_up_c q
  refine ⟨h0.lot x, ?_, ?_, ?_, ?_⟩
  · rw [vc 73 (by decide), vc (V 73 13).toNat (by omega), wc 112 (by decide)]
    exact hj
  · rw [vc 73 (by decide), pm_up_i (by decide)]
    exact t1
  · rw [pm_up_i (by decide), wc 112 (by decide)]
    exact t2
  · rw [pm_up_i (by decide)]
    exact t3
/-- what is said at a lot -/
theorem md_said {O : Type} {d : O} {c : Nat} {n l : Int} {U Y : pm_M} {K : Int → O} {C : Int × Int → (Int × Int) ⊕ O} (h : wx c n U Y) (hl : 0 ≤ l ∧ l < Y 90 51) (hC : ∀ x j : Int, C (x, j) = if pm_cmp x (Y 112 j.toNat) < 0 then .inr (K j) else .inl (x - Y 112 j.toNat, j + 1)) : ∃ j, F_X10_saidAt l U = (j, U) ∧ pf_val d C (l, 0) = K j ∧ 0 ≤ j ∧ j < n := by
  have e := F_X10_saidAt_eq l U
  obtain ⟨B, hB, e⟩ := pf_loop e
  have tt := h.2.2.2.1
  obtain ⟨w, ⟨hc, hw, h0, h13, hcn, hn0⟩, hn, w16, wj, t1, t2, t3, -, -⟩ := h.get
  have step : ∀ x j : Int, (n ≤ j → B (x, j) = .inr (0, U)) ∧ (j < n → B (x, j) = if pm_cmp (pm_w64 (x + U w j.toNat)) l ≤ 0 then .inl (pm_w64 (x + U w j.toNat), j + 1) else .inr (j, U)) := by
    intro x j
    have q := congrFun hB (x, j)
    simp only [] at q
    rcases hc with rfl | rfl
    · have k0 : U 73 0 = 45 := h0
      replace q := (q.trans (if_pos k0)).trans (pf_let_eq hcn)
      refine ⟨fun z => q.trans (if_pos z), fun z => ?_⟩
      replace q := q.trans (if_neg (show ¬ n ≤ j by omega))
      rcases hw with rfl | rfl
      · have k13 : U 73 13 = 76 := h13
        replace q := (((q.trans (if_pos k13)).trans (pf_let_eq rfl)).trans (pf_let_eq rfl)).trans (pf_let_eq rfl)
        by_cases g : pm_cmp (pm_w64 (x + U 76 j.toNat)) l ≤ 0
        · rw [if_pos g]
          exact (q.trans (if_pos g)).trans (pf_let_eq rfl)
        · rw [if_neg g]
          exact q.trans (if_neg g)
      · have k13 : U 73 13 = 77 := h13
        replace q := (((q.trans (if_neg (show ¬ U 73 13 = 76 by omega))).trans (pf_let_eq rfl)).trans (pf_let_eq rfl)).trans (pf_let_eq rfl)
        by_cases g : pm_cmp (pm_w64 (x + U 77 j.toNat)) l ≤ 0
        · rw [if_pos g]
          exact (q.trans (if_pos g)).trans (pf_let_eq rfl)
        · rw [if_neg g]
          exact q.trans (if_neg g)
    · have k0 : U 73 0 = 51 := h0
      replace q := (q.trans (if_neg (show ¬ U 73 0 = 45 by omega))).trans (pf_let_eq hcn)
      refine ⟨fun z => q.trans (if_pos z), fun z => ?_⟩
      replace q := q.trans (if_neg (show ¬ n ≤ j by omega))
      rcases hw with rfl | rfl
      · have k13 : U 73 13 = 76 := h13
        replace q := (((q.trans (if_pos k13)).trans (pf_let_eq rfl)).trans (pf_let_eq rfl)).trans (pf_let_eq rfl)
        by_cases g : pm_cmp (pm_w64 (x + U 76 j.toNat)) l ≤ 0
        · rw [if_pos g]
          exact (q.trans (if_pos g)).trans (pf_let_eq rfl)
        · rw [if_neg g]
          exact q.trans (if_neg g)
      · have k13 : U 73 13 = 77 := h13
        replace q := (((q.trans (if_neg (show ¬ U 73 13 = 76 by omega))).trans (pf_let_eq rfl)).trans (pf_let_eq rfl)).trans (pf_let_eq rfl)
        by_cases g : pm_cmp (pm_w64 (x + U 77 j.toNat)) l ≤ 0
        · rw [if_pos g]
          exact (q.trans (if_pos g)).trans (pf_let_eq rfl)
        · rw [if_neg g]
          exact q.trans (if_neg g)
  have key := pf_sim (d := ((0 : Int), U)) (d' := d) (b := B) (b' := C) (fun s t => t.1 = l - s.1 ∧ s.2 = t.2 ∧ 0 ≤ s.2 ∧ s.2 ≤ n ∧ s.1 = wk_S (Y 112) s.2.toNat ∧ s.1 ≤ l) (fun o p => ∃ j, o = (j, U) ∧ p = K j ∧ 0 ≤ j ∧ j < n) (fun s => (n - s.2).toNat) ?_ (0, 0) (l, 0) ⟨by dsimp only; omega, rfl, Int.le_refl _, hn0, rfl, hl.1⟩
  · rw [← e] at key
    exact key
  · rintro ⟨x, j⟩ ⟨x', j'⟩ ⟨p0, rfl, p1, p2, p3, p4⟩
    dsimp only at p0 p1 p2 p3 p4
    have r := hC x' j
    by_cases cj : n ≤ j
    · have ej : j = n := by omega
      rw [ej, ← tt] at p3
      omega
    · have q := (step x j).2 (by omega)
      obtain ⟨e1, e2, e3⟩ := wj j.toNat (by omega)
      have b := wk_S_b (g := Y 112) (M := 80000000) (by decide) j.toNat (fun i hi => (wj i (by omega)).2)
      rw [← p3] at b
      rw [e1, pm_w64_id (x := x + Y 112 j.toNat) ⟨by omega, by omega⟩] at q
      by_cases g : x + Y 112 j.toNat ≤ l
      · refine Or.inl ⟨_, _, q.trans (if_pos (pm_cmp_le0.mpr g)), r.trans (if_neg (fun z => absurd (pm_cmp_lt0.mp z) (by omega))), ⟨by dsimp only; omega, rfl, by dsimp only; omega, by dsimp only; omega, ?_, g⟩, by dsimp only; omega⟩
        dsimp only
        rw [p3, show (j + 1).toNat = j.toNat + 1 by omega]
        rfl
      · exact Or.inr ⟨_, _, q.trans (if_neg (fun z => g (pm_cmp_le0.mp z))), r.trans (if_pos (pm_cmp_lt0.mpr (by omega))), j, rfl, rfl, p1, by omega⟩
/-- an answer kept -/
theorem md_keep {V W : pm_M} {n x0 x1 x2 x3 x4 : Int} (h : wd V W) (hn : V 4 6 = n) (h0 : 0 ≤ n ∧ n < 60) (hp : x0 / 100 < W 90 23) : ∃ Z X, F_X7_addAnswer x0 x1 x2 x3 x4 V = (0, Z) ∧ F_X12_keepsAnswer x0 x1 x2 x3 x4 W = (0, X) ∧ wd Z X ∧ Z 4 6 = n + 1 ∧ X 90 16 = W 90 16 ∧ X 90 23 = W 90 23 := by
  obtain ⟨⟨hq, hpp, hb, h13⟩, ha, hl⟩ := h
  have hW : W 90 25 = n := hq.2.2.2.2.2.1.symm.trans hn
  have e1 := ((F_X7_addAnswer_eq x0 x1 x2 x3 x4 V).trans (pf_let_eq hn)).trans (if_neg (show ¬ 60 ≤ n by omega))
  have e2 := ((F_X12_keepsAnswer_eq x0 x1 x2 x3 x4 W).trans (pf_let_eq rfl)).trans (pf_let_eq hW)
  have hadd := ha.add (x0 := x0) (x1 := x1) (x2 := x2) (x3 := x3) (x4 := x4) (n' := n + 1) (m2 := n + 1) hn h0.1 rfl rfl rfl hp hW
  obtain ⟨Z, hZ⟩ : ∃ Z, Z = pm_up (pm_up (pm_up (pm_up (pm_up (pm_up V 9 n.toNat x0) 10 n.toNat x1) 11 n.toNat x2) 12 n.toNat x3) 13 n.toNat x4) 4 6 (n + 1) := ⟨_, rfl⟩
  obtain ⟨X, hX⟩ : ∃ X, X = pm_up (pm_up (pm_up (pm_up (pm_up (pm_up W 101 (5 * n).toNat x0) 101 ((5 * n) + 1).toNat x1) 101 ((5 * n) + 2).toNat x2) 101 ((5 * n) + 3).toNat x3) 101 ((5 * n) + 4).toNat x4) 90 25 (n + 1) := ⟨_, rfl⟩
  rw [← hZ, ← hX] at hadd
  rw [← hZ] at e1
  rw [← hX] at e2
  have z : ∀ k i, ¬ (9 ≤ k ∧ k ≤ 13) → ¬ (k = 4 ∧ i = 6) → Z k i = V k i := fun k i q1 q2 => by
    rw [hZ, up_ne q2, pm_up_c (by omega), pm_up_c (by omega), pm_up_c (by omega), pm_up_c (by omega), pm_up_c (by omega)]
  have xc : ∀ k, k ≠ 90 → k ≠ 101 → X k = W k := fun k q1 q2 => funext fun i => by
    rw [hX, pm_up_c q1, pm_up_c q2, pm_up_c q2, pm_up_c q2, pm_up_c q2, pm_up_c q2]
  have xf : ∀ i, i ≠ 25 → X 90 i = W 90 i := fun i q => by
    rw [hX, pm_up_i q, pm_up_c (by decide), pm_up_c (by decide), pm_up_c (by decide), pm_up_c (by decide), pm_up_c (by decide)]
  have z46 : Z 4 6 = n + 1 := by rw [hZ, pm_up_s]
  have x25 : X 90 25 = n + 1 := by rw [hX, pm_up_s]
  refine ⟨Z, X, e1, e2, ⟨⟨?_, ?_, ?_, ?_⟩, hadd, ?_⟩, z46, xf 16 (by decide), xf 23 (by decide)⟩
  · refine hq.cnt (fun k i q q4 => z k i (by unfold sq_nd at q; omega) (by omega)) ?_ (z46.trans x25.symm) (fun i q => xf i ?_) (fun k q => xc k ?_ ?_)
    · rw [z 4 1 (by decide) (by decide), xf 23 (by decide)]
      exact hq.2.2.2.2.1
    all_goals (rintro rfl; exact absurd q (by decide))
  · refine (hpp.C (V' := Z) fun k i q => z k i (by unfold pd at q; omega) (by unfold pd at q; omega)).R (fun k q => xc k ?_ ?_) <;> (rintro rfl; exact absurd q (by decide))
  · unfold wb at hb ⊢
    rw [xf 16 (by decide), xf 20 (by decide), xf 21 (by decide), xf 23 (by decide), xc 97 (by decide) (by decide), xc 98 (by decide) (by decide), xc 100 (by decide) (by decide)]
    exact hb
  · rw [z 73 13 (by decide) (by decide)]
    exact h13
  · rw [z 0 16 (by decide) (by decide), xf 57 (by decide)]
    exact hl
set_option maxHeartbeats 4000000 in
theorem mD_draw {V W : pm_M} (h : wq V W) (ha : ra V W) (hb6 : 0 ≤ V 4 6) (a1 a2 a3 a4 : Int) : ∃ y V1 W1, F_X11_draw a1 a2 a3 a4 V = (y, V1) ∧ F_X12_draw a1 a2 a3 a4 W = (y, W1) ∧ ra V1 W1 := by
  have h5 := h.1.2.2.2.2.1
  have h6 := h.1.2.2.2.2.2.1
  obtain ⟨n, hn⟩ : ∃ n, W 90 16 = n := ⟨_, rfl⟩
  obtain ⟨N, hN⟩ : ∃ N, V 4 6 = N := ⟨_, rfl⟩
  have bn := h.2.2.1.1
  rw [hn] at bn
  have e1 := (F_X11_draw_eq a1 a2 a3 a4 V).trans (pf_let_eq hN)
  have e2 := ((F_X12_draw_eq a1 a2 a3 a4 W).trans (pf_let_eq hn)).trans (pf_let_eq (h6.symm.trans hN))
  by_cases cl : 0 ≤ a1 ∧ a1 ≤ 6
  · replace e1 := (e1.trans (pf_call_eq ((nf_isLaw a1).1 cl))).trans (if_neg (by decide))
    replace e2 := (e2.trans (pf_call_eq ((nf_isLawR a1).1 cl))).trans (if_neg (by decide))
    by_cases cp : 0 ≤ a2 ∧ a2 < W 90 23
    · replace e1 := (e1.trans (pf_call_eq ((nf_isPerson a2).1 (by rw [h5]; exact cp)))).trans (if_neg (by decide))
      replace e2 := (e2.trans (pf_call_eq ((nf_isPersonR a2).1 cp))).trans (if_neg (by decide))
      by_cases c3 : 0 ≤ a3 ∧ a3 ≤ 1000000
      · replace e1 := (e1.trans (if_neg (show ¬ a3 < 0 by omega))).trans (if_neg (show ¬ 1000000 < a3 by omega))
        replace e2 := (e2.trans (pf_call_eq ((nf_in a3 0 1000000).1 c3))).trans (if_neg (by decide))
        by_cases c4 : 1 ≤ a4 ∧ a4 ≤ 20
        · replace e1 := (e1.trans (if_neg (show ¬ a4 < 1 by omega))).trans (if_neg (show ¬ 20 < a4 by omega))
          replace e2 := (e2.trans (pf_call_eq ((nf_in a4 1 20).1 c4))).trans (if_neg (by decide))
          by_cases c6 : N + a4 ≤ 60
          · replace e1 := (e1.trans (if_pos c6)).trans (pf_let_eq rfl)
            replace e2 := (e2.trans (if_pos c6)).trans (pf_let_eq rfl)
            obtain ⟨B, hB, e1⟩ := pf_loop e1
            obtain ⟨C, hC, e2⟩ := pf_loop e2
            have w0 : wd (pm_up V 0 16 a3) (pm_up W 90 57 a3) := wd_lot h ha a3
            have key := pf_sim (d := ((0 : Int), V)) (d' := ((0 : Int), W)) (b := B) (b' := C) (fun s t => s.1 = t.1 ∧ 0 ≤ s.1 ∧ wd s.2 t.2 ∧ s.2 4 6 = N + s.1 ∧ t.2 90 16 = n ∧ t.2 90 23 = W 90 23) (fun o p => o.1 = p.1 ∧ ra o.2 p.2) (fun s => (a4 - s.1).toNat) ?_ (0, pm_up V 0 16 a3) (0, pm_up W 90 57 a3) ⟨rfl, Int.le_refl _, w0, ?_, ?_, ?_⟩
            · rw [← e1, ← e2] at key
              exact ⟨(F_X11_draw a1 a2 a3 a4 V).1, (F_X11_draw a1 a2 a3 a4 V).2, (F_X12_draw a1 a2 a3 a4 W).2, rfl, Prod.ext key.1.symm rfl, key.2⟩
            · rintro ⟨x, U⟩ ⟨x', Y⟩ ⟨rfl, p0, p1, p2, p3, p4⟩
              dsimp only at p0 p1 p2 p3 p4
              have q1 := congrFun hB (x, U)
              have q2 := congrFun hC (x, Y)
              simp only [] at q1 q2
              have u25 : Y 90 25 = N + x := p1.1.1.2.2.2.2.2.1.symm.trans p2
              replace q2 := q2.trans (pf_let_eq u25)
              by_cases cx : a4 ≤ x
              · exact Or.inr ⟨_, _, (q1.trans (if_pos cx)).trans (pf_let_eq p2), q2.trans (if_pos cx), rfl, p1.2.1⟩
              · replace q1 := (q1.trans (if_neg cx)).trans (pf_let_eq rfl)
                replace q2 := q2.trans (if_neg cx)
                obtain ⟨c, hc, c0, cn⟩ := p1.1.cc
                rw [p3] at cn
                obtain ⟨v1, z1, a, b, va, vb⟩ := md_lot (n := n) (by omega) p1.2.2
                have d1 := p1.lot z1
                obtain ⟨v2, z2, a', b', va', vb'⟩ := md_lot (n := n) (by omega) d1.2.2
                have d2 := d1.lot z2
                obtain ⟨v3, z3, a'', b'', va3, vb3⟩ := md_lot (n := 10) (by decide) d2.2.2
                have d3 := d2.lot z3
                obtain ⟨v4, z4, a3', b3', va4, vb4⟩ := md_lot (n := 10) (by decide) d3.2.2
                have d4 := d3.lot z4
                obtain ⟨v5, z5, a4', b4', va5, vb5⟩ := md_lot (n := 199) (by decide) d4.2.2
                have d5 := d4.lot z5
                obtain ⟨U5, hU5⟩ : ∃ U5, U5 = pm_up (pm_up (pm_up (pm_up (pm_up U 0 16 z1) 0 16 z2) 0 16 z3) 0 16 z4) 0 16 z5 := ⟨_, rfl⟩
                obtain ⟨Y5, hY5⟩ : ∃ Y5, Y5 = pm_up (pm_up (pm_up (pm_up (pm_up Y 90 57 z1) 90 57 z2) 90 57 z3) 90 57 z4) 90 57 z5 := ⟨_, rfl⟩
                rw [← hU5, ← hY5] at d5
                rw [← hU5] at a4'
                rw [← hY5] at b4'
                have y16 : Y5 90 16 = n := by rw [hY5, pm_up_i (by decide), pm_up_i (by decide), pm_up_i (by decide), pm_up_i (by decide), pm_up_i (by decide)]; exact p3
                have y23 : Y5 90 23 = W 90 23 := by rw [hY5, pm_up_i (by decide), pm_up_i (by decide), pm_up_i (by decide), pm_up_i (by decide), pm_up_i (by decide)]; exact p4
                have u46 : U5 4 6 = N + x := by rw [hU5, pm_up_c (by decide), pm_up_c (by decide), pm_up_c (by decide), pm_up_c (by decide), pm_up_c (by decide)]; exact p2
                have b23 := d5.1.2.2.1.2.2.2.1
                rw [y23] at b23
                obtain ⟨g0, g1, g2, g3⟩ := pm_wvf (a := a2) (v := v1) (f := v2) ⟨cp.1, by omega⟩ ⟨va, by omega⟩ ⟨va', by omega⟩
                have g4 : (100 * a2 + 10 * v1 + v2) / 100 = a2 := by omega
                have ew : ((a2 * 100) + (v1 * 10)) + v2 = ((100 * a2) + (10 * v1)) + v2 := by omega
                have es : (v3 * 10) + v4 = (10 * v3) + v4 := by omega
                obtain ⟨o1, U6, hV⟩ : ∃ y Z, F_X11_pose (((100 * a2) + (10 * v1)) + v2) ((10 * v3) + v4) (v5 - 99) U5 = (y, Z) := ⟨_, _, rfl⟩
                obtain ⟨o2, Y6, hW⟩ : ∃ y Z, F_X12_works (((100 * a2) + (10 * v1)) + v2) ((10 * v3) + v4) (v5 - 99) Y5 = (y, Z) := ⟨_, _, rfl⟩
                obtain ⟨o3, U7, hZ⟩ : ∃ y Z, F_X10_weigh a1 U6 = (y, Z) := ⟨_, _, rfl⟩
                obtain ⟨o4, Y7, hX⟩ : ∃ y Z, F_X12_weighs a1 Y6 = (y, Z) := ⟨_, _, rfl⟩
                obtain ⟨c', -, k1, -, k3, k4, -, -⟩ := wz_trial d5.1 cl g0 (by rw [g4, y23]; exact cp.2) (by rw [g3, y16]; omega) (by rw [g2, y16]; omega) ⟨by omega, by omega⟩ ⟨by omega, by omega⟩ hV hW hZ hX
                rw [y16] at k1
                have d7 := d5.fr k3 k4
                have k1' := k1
                obtain ⟨-, -, -, -, -, t1, t2, -, -, -⟩ := k1'.get
                obtain ⟨v8, z8, a8, b8, va8, vb8⟩ := md_lot (n := Y7 90 51) t2 d7.2.2
                have k8 := k1.lot z8
                have d8 := d7.lot z8
                have y851 : pm_up Y7 90 57 z8 90 51 = Y7 90 51 := pm_up_i (by decide)
                obtain ⟨v9, z9, a9, b9, -, -⟩ := md_lot (n := 1000) (by decide) d8.2.2
                have k9 := k8.lot z9
                have d9 := d8.lot z9
                obtain ⟨m, m1, m2⟩ := k9.1.noticed
                obtain ⟨U9, hU9⟩ : ∃ U9, U9 = pm_up (pm_up U7 0 16 z8) 0 16 z9 := ⟨_, rfl⟩
                obtain ⟨Y9, hY9⟩ : ∃ Y9, Y9 = pm_up (pm_up Y7 90 57 z8) 90 57 z9 := ⟨_, rfl⟩
                rw [← hU9] at a9 m1 d9
                rw [← hY9] at b9 m2 d9
                have u946 : U9 4 6 = N + x := by rw [hU9, pm_up_c (by decide), pm_up_c (by decide), k3 4 6 (Or.inl (Or.inl (by decide)))]; exact u46
                have y916 : Y9 90 16 = n := by rw [hY9, pm_up_i (by decide), pm_up_i (by decide), k4.2 16 (by omega)]; exact y16
                have y923 : Y9 90 23 = W 90 23 := by rw [hY9, pm_up_i (by decide), pm_up_i (by decide), k4.2 23 (by omega)]; exact y23
                have keep := fun (s nt : Int) => md_keep (x0 := ((100 * a2) + (10 * v1)) + v2) (x1 := (10 * v3) + v4) (x2 := v5 - 99) (x3 := s) (x4 := nt) d9 u946 ⟨by omega, by omega⟩ (by rw [g4, y923]; exact cp.2)
                have CL : ∀ s : Int, F_X10_saidAt v8 (pm_up U7 0 16 z8) = (s, pm_up U7 0 16 z8) → (m ≤ v9 → ∀ Z, F_X7_addAnswer (((100 * a2) + (10 * v1)) + v2) ((10 * v3) + v4) (v5 - 99) s 0 U9 = (0, Z) → F_X11_drawAnswer a1 a2 U = (0, Z)) ∧ (¬ m ≤ v9 → ∀ Z, F_X7_addAnswer (((100 * a2) + (10 * v1)) + v2) ((10 * v3) + v4) (v5 - 99) s 1 U9 = (0, Z) → F_X11_drawAnswer a1 a2 U = (0, Z)) := by
                  intro s hs
                  have e := (F_X11_drawAnswer_eq a1 a2 U).trans (pf_let_eq rfl)
                  rw [← ew, ← es] at hV ⊢
                  rcases hc with rfl | rfl
                  · have e3 := ((e.trans (if_pos c0)).trans (pf_let_eq cn))
                    replace e3 := ((((e3.trans (pf_call_eq a)).trans (pf_call_eq a')).trans (pf_call_eq a'')).trans (pf_call_eq a3')).trans (pf_call_eq a4')
                    replace e3 := ((((e3.trans (pf_let_eq rfl)).trans (pf_call_eq hV)).trans (pf_call_eq hZ)).trans (pf_let_eq t1)).trans (pf_call_eq a8)
                    replace e3 := ((e3.trans (pf_call_eq hs)).trans (pf_call_eq a9)).trans (pf_call_eq m1)
                    exact ⟨fun g Z hz => (e3.trans (if_pos g)).trans (pf_call_eq hz), fun g Z hz => (e3.trans (if_neg g)).trans (pf_call_eq hz)⟩
                  · have e3 := ((e.trans (if_neg (show ¬ U 0 8 = 45 by omega))).trans (pf_let_eq cn))
                    replace e3 := ((((e3.trans (pf_call_eq a)).trans (pf_call_eq a')).trans (pf_call_eq a'')).trans (pf_call_eq a3')).trans (pf_call_eq a4')
                    replace e3 := ((((e3.trans (pf_let_eq rfl)).trans (pf_call_eq hV)).trans (pf_call_eq hZ)).trans (pf_let_eq t1)).trans (pf_call_eq a8)
                    replace e3 := ((e3.trans (pf_call_eq hs)).trans (pf_call_eq a9)).trans (pf_call_eq m1)
                    exact ⟨fun g Z hz => (e3.trans (if_pos g)).trans (pf_call_eq hz), fun g Z hz => (e3.trans (if_neg g)).trans (pf_call_eq hz)⟩
                replace q2 := ((((q2.trans (pf_call_eq b)).trans (pf_call_eq b')).trans (pf_call_eq b'')).trans (pf_call_eq b3')).trans (pf_call_eq b4')
                replace q2 := (((((q2.trans (pf_let_eq rfl)).trans (pf_call_eq hW)).trans (pf_let_eq rfl)).trans (pf_let_eq rfl)).trans (pf_call_eq hX)).trans (pf_let_eq rfl)
                replace q2 := q2.trans (pf_call_eq b8)
                obtain ⟨C2, hC2, q2⟩ := pf_loop q2
                by_cases g : m ≤ v9
                · obtain ⟨s, s1, s2, s3, s4⟩ := md_said (d := (Sum.inr ((0 : Int), W) : (Int × pm_M) ⊕ (Int × pm_M))) (K := fun j => Sum.inl (x + 1, (F_X12_keepsAnswer (((100 * a2) + (10 * v1)) + v2) ((10 * v3) + v4) (v5 - 99) j 0 Y9).2)) (C := C2) k8 ⟨va8, by rw [y851]; exact vb8⟩ (fun x1 j => by
                    have r := congrFun hC2 (x1, j)
                    simp only [] at r
                    replace r := (r.trans (pf_let_eq rfl)).trans (pf_let_eq rfl)
                    by_cases gg : pm_cmp x1 (pm_up Y7 90 57 z8 112 j.toNat) < 0
                    · rw [if_pos gg]
                      replace r := ((((r.trans (if_pos gg)).trans (pf_call_eq b9)).trans (pf_call_eq m2)).trans (if_pos g))
                      exact r
                    · rw [if_neg gg]
                      exact (r.trans (if_neg gg)).trans (pf_let_eq rfl))
                  obtain ⟨Z, X, k1', k2', k3', k4', k5', k6'⟩ := keep s 0
                  have r1 := ((q1.trans (pf_call_eq ((CL s s1).1 g Z k1'))).trans (pf_let_eq rfl)).trans (pf_let_eq rfl)
                  have r2 := q2.trans s2
                  rw [k2'] at r2
                  exact Or.inl ⟨_, _, r1, r2, ⟨rfl, by dsimp only; omega, k3', by dsimp only; omega, k5'.trans y916, k6'.trans y923⟩, by dsimp only; omega⟩
                · obtain ⟨s, s1, s2, s3, s4⟩ := md_said (d := (Sum.inr ((0 : Int), W) : (Int × pm_M) ⊕ (Int × pm_M))) (K := fun j => Sum.inl (x + 1, (F_X12_keepsAnswer (((100 * a2) + (10 * v1)) + v2) ((10 * v3) + v4) (v5 - 99) j 1 Y9).2)) (C := C2) k8 ⟨va8, by rw [y851]; exact vb8⟩ (fun x1 j => by
                    have r := congrFun hC2 (x1, j)
                    simp only [] at r
                    replace r := (r.trans (pf_let_eq rfl)).trans (pf_let_eq rfl)
                    by_cases gg : pm_cmp x1 (pm_up Y7 90 57 z8 112 j.toNat) < 0
                    · rw [if_pos gg]
                      replace r := ((((r.trans (if_pos gg)).trans (pf_call_eq b9)).trans (pf_call_eq m2)).trans (if_neg g))
                      exact r
                    · rw [if_neg gg]
                      exact (r.trans (if_neg gg)).trans (pf_let_eq rfl))
                  obtain ⟨Z, X, k1', k2', k3', k4', k5', k6'⟩ := keep s 1
                  have r1 := ((q1.trans (pf_call_eq ((CL s s1).2 g Z k1'))).trans (pf_let_eq rfl)).trans (pf_let_eq rfl)
                  have r2 := q2.trans s2
                  rw [k2'] at r2
                  exact Or.inl ⟨_, _, r1, r2, ⟨rfl, by dsimp only; omega, k3', by dsimp only; omega, k5'.trans y916, k6'.trans y923⟩, by dsimp only; omega⟩
            · dsimp only
              rw [pm_up_c (by decide)]
              omega
            · dsimp only
              rw [pm_up_i (by decide)]
              exact hn
            · dsimp only
              rw [pm_up_i (by decide)]
          · exact ⟨_, _, _, e1.trans (if_neg c6), e2.trans (if_neg c6), ha⟩
        · replace e2 := (e2.trans (pf_call_eq ((nf_in a4 1 20).2 c4))).trans (if_pos (by decide))
          by_cases c5 : a4 < 1
          · exact ⟨_, _, _, e1.trans (if_pos c5), e2, ha⟩
          · exact ⟨_, _, _, (e1.trans (if_neg c5)).trans (if_pos (by omega)), e2, ha⟩
      · replace e2 := (e2.trans (pf_call_eq ((nf_in a3 0 1000000).2 c3))).trans (if_pos (by decide))
        by_cases c5 : a3 < 0
        · exact ⟨_, _, _, e1.trans (if_pos c5), e2, ha⟩
        · exact ⟨_, _, _, (e1.trans (if_neg c5)).trans (if_pos (by omega)), e2, ha⟩
    · exact ⟨_, _, _, (e1.trans (pf_call_eq ((nf_isPerson a2).2 (by rw [h5]; exact cp)))).trans (if_pos (by decide)), (e2.trans (pf_call_eq ((nf_isPersonR a2).2 cp))).trans (if_pos (by decide)), ha⟩
  · exact ⟨_, _, _, (e1.trans (pf_call_eq ((nf_isLaw a1).2 cl))).trans (if_pos (by decide)), (e2.trans (pf_call_eq ((nf_isLawR a1).2 cl))).trans (if_pos (by decide)), ha⟩
