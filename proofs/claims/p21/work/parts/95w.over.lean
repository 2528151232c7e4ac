/-! WEIGHTS: loops over trials, side by side -/
theorem pf_sim {S T O P : Type} {d : O} {d' : P} {b : S → S ⊕ O} {b' : T → T ⊕ P} (R : S → T → Prop) (Q : O → P → Prop) (mu : S → Nat) (h : ∀ s t, R s t → (∃ s1 t1, b s = .inl s1 ∧ b' t = .inl t1 ∧ R s1 t1 ∧ mu s1 < mu s) ∨ (∃ o p, b s = .inr o ∧ b' t = .inr p ∧ Q o p)) : ∀ s t, R s t → Q (pf_val d b s) (pf_val d' b' t) := by
  have key : ∀ (n : Nat) (s : S) (t : T), mu s = n → R s t → Q (pf_val d b s) (pf_val d' b' t) := by
    intro n
    induction n using Nat.strongRecOn with
    | _ n ih =>
      intro s t hn hR
      rcases h s t hR with ⟨s1, t1, e1, e2, r, m⟩ | ⟨o, p, e1, e2, q⟩
      · rw [pf_val_inl e1, pf_val_inl e2]
        exact ih (mu s1) (by omega) s1 t1 rfl r
      · rw [pf_val_inr e1, pf_val_inr e2]
        exact q
  exact fun s t r => key (mu s) s t rfl r
/-- a trial put and weighed -/
theorem wz_trial {V W V1 W1 Z X : pm_M} {a a1 a2 a3 z1 z2 z3 z4 : Int} (h : wq V W) (hl : 0 ≤ a ∧ a ≤ 6) (t0 : 0 ≤ a1) (t1 : a1 / 100 < W 90 23) (t2 : (a1 / 10) % 10 < W 90 16) (t3 : a1 % 10 < W 90 16) (s : 0 ≤ a2 ∧ a2 ≤ 99) (l : -99 ≤ a3 ∧ a3 ≤ 99) (hV : F_X11_pose a1 a2 a3 V = (z1, V1)) (hW : F_X12_works a1 a2 a3 W = (z2, W1)) (hZ : F_X10_weigh a V1 = (z3, Z)) (hX : F_X12_weighs a W1 = (z4, X)) : ∃ c : Nat, V 0 8 = (c : Int) ∧ wx c (W 90 16) Z X ∧ wq Z X ∧ fC V Z ∧ fR W X ∧ X 90 48 = (a1 / 10) % 10 ∧ X 90 49 = a1 % 10 := by
  obtain ⟨hq, hp, hb, h13⟩ := h
  obtain ⟨c, c0, c1, -, -, c2, c3⟩ := wz_pose hq hp hb h13 t0 t1 t2 t3 s l hV hW
  obtain ⟨d1, d2⟩ := ww_weigh c1 hl hZ hX
  obtain ⟨p, sv, sf, tr, g, r, -, -, -, -, -, -, -, -, w48, w49, -⟩ := rw_pose hb rfl t0 t1 t2 t3 s l hW
  exact ⟨c, c0, d1, wq.fr ⟨hq, hp, hb, h13⟩ (c2.tr d2.C) (c3.tr d2.R), c2.tr d2.C, c3.tr d2.R, (d2.2 90 48 (by decide) (by decide)).trans w48, (d2.2 90 49 (by decide) (by decide)).trans w49⟩
/-- the current scene -/
theorem wq.cc {V W : pm_M} (h : wq V W) : ∃ c : Nat, (c = 45 ∨ c = 51) ∧ V 0 8 = (c : Int) ∧ V c 0 = W 90 16 := by
  rcases h.1.hs with ⟨q, q2⟩ | ⟨q, q2⟩
  · exact ⟨45, Or.inl rfl, q, q2⟩
  · exact ⟨51, Or.inr rfl, q, q2⟩
/-! how often it is right -/
theorem rr_right {V W : pm_M} (h : wq V W) {a1 a2 a3 : Int} (hl : 0 ≤ a1 ∧ a1 ≤ 6) (hp : 0 ≤ a2 ∧ a2 < W 90 23) (hs : 0 ≤ a3 ∧ a3 ≤ 99) : ∃ y Z X, F_X11_sumRight a1 a2 a3 V = (y, Z) ∧ F_X12_rightOf a1 a2 a3 W = (y, X) ∧ wq Z X ∧ fC V Z ∧ fR W X := by
  have e1 := F_X11_sumRight_eq a1 a2 a3 V
  have e2 := (F_X12_rightOf_eq a1 a2 a3 W).trans (pf_let_eq rfl)
  obtain ⟨n, hn⟩ : ∃ n, W 90 16 = n := ⟨_, rfl⟩
  rw [hn] at e2
  obtain ⟨B, hB, e1⟩ := pf_loop e1
  obtain ⟨C, hC, e2⟩ := pf_loop e2
  have bn : 2 ≤ n ∧ n ≤ 9 := by rw [← hn]; exact h.2.2.1.1
  have key := pf_sim (d := ((0 : Int), V)) (d' := ((0 : Int), W)) (b := B) (b' := C) (fun s t => s.1 = t.1 ∧ s.2.1 = t.2.1 ∧ 0 ≤ s.2.1 ∧ wq s.2.2 t.2.2 ∧ fC V s.2.2 ∧ fR W t.2.2) (fun o p => o.1 = p.1 ∧ wq o.2 p.2 ∧ fC V o.2 ∧ fR W p.2) (fun s => (n - s.2.1).toNat) ?_ (0, 0, V) (0, 0, W) ⟨rfl, rfl, Int.le_refl _, h, fC.rf, fR.rf⟩
  · rw [← e1, ← e2] at key
    obtain ⟨k1, k2, k3, k4⟩ := key
    exact ⟨(F_X11_sumRight a1 a2 a3 V).1, (F_X11_sumRight a1 a2 a3 V).2, (F_X12_rightOf a1 a2 a3 W).2, rfl, Prod.ext k1.symm rfl, k2, k3, k4⟩
  · rintro ⟨x, j, U⟩ ⟨x', j', Y⟩ ⟨rfl, rfl, p0, p1, p2, p3⟩
    dsimp only at p0 p1 p2 p3
    have q1 := congrFun hB (x, j, U)
    have q2 := congrFun hC (x, j, Y)
    simp only [] at q1 q2
    have y16 : Y 90 16 = n := (p3.2 16 (by omega)).trans hn
    have y23 : Y 90 23 = W 90 23 := p3.2 23 (by omega)
    obtain ⟨c, hc, c0, cn⟩ := p1.cc
    rw [y16] at cn
    obtain ⟨y1, V1, hV⟩ : ∃ y Z, F_X11_pose ((a2 * 100) + (j * 11)) a3 0 U = (y, Z) := ⟨_, _, rfl⟩
    obtain ⟨y2, W1, hW⟩ : ∃ y Z, F_X12_works ((100 * a2) + (11 * j)) a3 0 Y = (y, Z) := ⟨_, _, rfl⟩
    obtain ⟨y3, Z, hZ⟩ : ∃ y Z, F_X10_weigh a1 V1 = (y, Z) := ⟨_, _, rfl⟩
    obtain ⟨y4, X, hX⟩ : ∃ y Z, F_X12_weighs a1 W1 = (y, Z) := ⟨_, _, rfl⟩
    have ew : (a2 * 100) + (j * 11) = (100 * a2) + (11 * j) := by omega
    rw [ew] at hV
    by_cases cj : n ≤ j
    · refine Or.inr ⟨(x, U), (x, Y), ?_, q2.trans (if_pos cj), rfl, p1, p2, p3⟩
      rcases hc with rfl | rfl
      · exact ((q1.trans (if_pos c0)).trans (pf_let_eq rfl)).trans (if_pos (show U 45 0 ≤ j by omega))
      · exact ((q1.trans (if_neg (show ¬ U 0 8 = 45 by omega))).trans (pf_let_eq rfl)).trans (if_pos (show U 51 0 ≤ j by omega))
    · obtain ⟨m1, m2, m3⟩ := pm_w11 (a := a2) (s := j) ⟨p0, by omega⟩
      obtain ⟨c', -, k1, k2, k3, k4, -, -⟩ := wz_trial p1 hl (by omega) (by rw [m3, y23]; exact hp.2) (by rw [m2, y16]; omega) (by rw [m1, y16]; omega) hs ⟨by decide, by decide⟩ hV hW hZ hX
      rw [y16] at k1
      obtain ⟨v, v1, v2⟩ := k1.chance (j := j) ⟨p0, by omega⟩
      have r2 := ((((((q2.trans (if_neg cj)).trans (pf_call_eq hW)).trans (pf_let_eq rfl)).trans (pf_let_eq rfl)).trans (pf_call_eq hX)).trans (pf_call_eq v2)).trans (pf_let_eq rfl)
      have r1 : B (x, j, U) = .inl (pm_w32 (x + v), j + 1, Z) := by
        rw [← ew] at hV
        rcases hc with rfl | rfl
        · exact (((((((q1.trans (if_pos c0)).trans (pf_let_eq rfl)).trans (if_neg (show ¬ U 45 0 ≤ j by omega))).trans (pf_call_eq hV)).trans (pf_call_eq hZ)).trans (pf_call_eq v1)).trans (pf_let_eq rfl)).trans (pf_let_eq rfl)
        · exact (((((((q1.trans (if_neg (show ¬ U 0 8 = 45 by omega))).trans (pf_let_eq rfl)).trans (if_neg (show ¬ U 51 0 ≤ j by omega))).trans (pf_call_eq hV)).trans (pf_call_eq hZ)).trans (pf_call_eq v1)).trans (pf_let_eq rfl)).trans (pf_let_eq rfl)
      exact Or.inl ⟨_, _, r1, r2.trans (pf_let_eq rfl), ⟨rfl, rfl, by dsimp only; omega, k2, p2.tr k3, p3.tr k4⟩, by dsimp only; omega⟩
theorem mB_right {V W : pm_M} (h : wq V W) (a1 a2 a3 : Int) : ∃ y V1 W1, F_X11_right a1 a2 a3 V = (y, V1) ∧ F_X12_right a1 a2 a3 W = (y, W1) ∧ True := by
  have h5 := h.1.2.2.2.2.1
  have e1 := F_X11_right_eq a1 a2 a3 V
  have e2 := F_X12_right_eq a1 a2 a3 W
  have e3 := F_X12_canBe_eq a1 a2 a3 W
  by_cases cl : 0 ≤ a1 ∧ a1 ≤ 6
  · replace e1 := (e1.trans (pf_call_eq ((nf_isLaw a1).1 cl))).trans (if_neg (by decide))
    replace e3 := (e3.trans (pf_call_eq ((nf_isLawR a1).1 cl))).trans (if_neg (by decide))
    by_cases cp : 0 ≤ a2 ∧ a2 < W 90 23
    · replace e1 := (e1.trans (pf_call_eq ((nf_isPerson a2).1 (by rw [h5]; exact cp)))).trans (if_neg (by decide))
      replace e3 := (e3.trans (pf_call_eq ((nf_isPersonR a2).1 cp))).trans (if_neg (by decide))
      by_cases cs : 0 ≤ a3 ∧ a3 ≤ 99
      · replace e1 := (e1.trans (pf_call_eq ((nf_isSetting a3).1 cs))).trans (if_pos (by decide))
        replace e3 := (e3.trans (pf_call_eq ((nf_in a3 0 99).1 cs))).trans (if_neg (by decide))
        obtain ⟨y, Z, X, r1, r2, -⟩ := rr_right h cl cp cs
        replace e1 := e1.trans (pf_call_eq r1)
        replace e2 := ((e2.trans (pf_call_eq e3)).trans (if_neg (by decide))).trans (pf_call_eq r2)
        exact ⟨_, _, _, e1, e2, trivial⟩
      · replace e1 := (e1.trans (pf_call_eq ((nf_isSetting a3).2 cs))).trans (if_neg (by decide))
        replace e3 := (e3.trans (pf_call_eq ((nf_in a3 0 99).2 cs))).trans (if_pos (by decide))
        replace e2 := (e2.trans (pf_call_eq e3)).trans (if_pos (by decide))
        exact ⟨_, _, _, e1, e2, trivial⟩
    · replace e1 := (e1.trans (pf_call_eq ((nf_isPerson a2).2 (by rw [h5]; exact cp)))).trans (if_pos (by decide))
      replace e3 := (e3.trans (pf_call_eq ((nf_isPersonR a2).2 cp))).trans (if_pos (by decide))
      replace e2 := (e2.trans (pf_call_eq e3)).trans (if_pos (by decide))
      exact ⟨_, _, _, e1, e2, trivial⟩
  · replace e1 := (e1.trans (pf_call_eq ((nf_isLaw a1).2 cl))).trans (if_pos (by decide))
    replace e3 := (e3.trans (pf_call_eq ((nf_isLawR a1).2 cl))).trans (if_pos (by decide))
    replace e2 := (e2.trans (pf_call_eq e3)).trans (if_pos (by decide))
    exact ⟨_, _, _, e1, e2, trivial⟩
theorem mB_worth {V W : pm_M} (h : wq V W) (a1 a2 a3 : Int) : ∃ y V1 W1, F_X11_worth a1 a2 a3 V = (y, V1) ∧ F_X12_worth a1 a2 a3 W = (y, W1) ∧ True := by
  have h5 := h.1.2.2.2.2.1
  have e1 := F_X11_worth_eq a1 a2 a3 V
  have e2 := F_X12_worth_eq a1 a2 a3 W
  have e3 := F_X12_canBe_eq a1 a2 a3 W
  by_cases cl : 0 ≤ a1 ∧ a1 ≤ 6
  · replace e1 := (e1.trans (pf_call_eq ((nf_isLaw a1).1 cl))).trans (if_neg (by decide))
    replace e3 := (e3.trans (pf_call_eq ((nf_isLawR a1).1 cl))).trans (if_neg (by decide))
    by_cases cp : 0 ≤ a2 ∧ a2 < W 90 23
    · replace e1 := (e1.trans (pf_call_eq ((nf_isPerson a2).1 (by rw [h5]; exact cp)))).trans (if_neg (by decide))
      replace e3 := (e3.trans (pf_call_eq ((nf_isPersonR a2).1 cp))).trans (if_neg (by decide))
      by_cases cs : 0 ≤ a3 ∧ a3 ≤ 99
      · replace e1 := (e1.trans (pf_call_eq ((nf_isSetting a3).1 cs))).trans (if_pos (by decide))
        replace e3 := (e3.trans (pf_call_eq ((nf_in a3 0 99).1 cs))).trans (if_neg (by decide))
        obtain ⟨y, Z, X, r1, r2, r3, r4, r5⟩ := rr_right h cl cp cs
        replace e1 := e1.trans (pf_call_eq r1)
        replace e2 := ((e2.trans (pf_call_eq e3)).trans (if_pos (by decide))).trans (pf_call_eq r2)
        obtain ⟨B, hB, e1⟩ := pf_loop e1
        obtain ⟨C, hC, e2⟩ := pf_loop e2
        have key := pf_sim (d := ((0 : Int), V)) (d' := ((0 : Int), W)) (b := B) (b' := C) (fun s t => t.1 = a3 / 10 - s.1 ∧ 0 ≤ s.1 ∧ s.1 ≤ a3 / 10 + 1 ∧ wq s.2 t.2 ∧ fR W t.2) (fun o p => o.1 = p.1) (fun s => (a3 / 10 + 1 - s.1).toNat) ?_ (0, Z) (a3 / 10, X) ⟨by dsimp only; omega, Int.le_refl _, by dsimp only; omega, r3, r5⟩
        · rw [← e1, ← e2] at key
          exact ⟨(F_X11_worth a1 a2 a3 V).1, (F_X11_worth a1 a2 a3 V).2, (F_X12_worth a1 a2 a3 W).2, rfl, Prod.ext key.symm rfl, trivial⟩
        · rintro ⟨x, U⟩ ⟨x', Y⟩ ⟨p0, p1, p2, p3, p4⟩
          dsimp only at p0 p1 p2 p3 p4
          have q1 := congrFun hB (x, U)
          have q2 := congrFun hC (x', Y)
          simp only [] at q1 q2
          by_cases cx : a3 / 10 < x
          · have q3 := ((q2.trans (if_pos (show x' < 0 by omega))).trans (if_neg (show ¬ 0 ≤ x' by omega)))
            exact Or.inr ⟨_, _, q1.trans (if_pos cx), q3, rfl⟩
          · have ea : a3 - x * 10 = 10 * x' + a3 % 10 := by omega
            obtain ⟨v, Z1, X1, v1, v2, v3, v4, v5⟩ := rr_right p3 (a1 := 0) (a2 := a2) (a3 := a3 - x * 10) ⟨by decide, by decide⟩ (by rw [p4.2 23 (by omega)]; exact cp) (by omega)
            replace q1 := (q1.trans (if_neg cx)).trans (pf_call_eq v1)
            rw [ea] at v2
            replace q2 := (q2.trans (if_neg (show ¬ x' < 0 by omega))).trans (pf_call_eq v2)
            by_cases cv : v < y
            · exact Or.inl ⟨_, _, (q1.trans (if_pos cv)).trans (pf_let_eq rfl), (q2.trans (if_neg (show ¬ y ≤ v by omega))).trans (pf_let_eq rfl), ⟨by dsimp only; omega, by dsimp only; omega, by dsimp only; omega, v3, p4.tr v5⟩, by dsimp only; omega⟩
            · exact Or.inr ⟨_, _, q1.trans (if_neg cv), (q2.trans (if_pos (show y ≤ v by omega))).trans (if_pos (show 0 ≤ x' by omega)), by dsimp only; omega⟩
      · replace e1 := (e1.trans (pf_call_eq ((nf_isSetting a3).2 cs))).trans (if_neg (by decide))
        replace e3 := (e3.trans (pf_call_eq ((nf_in a3 0 99).2 cs))).trans (if_pos (by decide))
        replace e2 := (e2.trans (pf_call_eq e3)).trans (if_neg (by decide))
        exact ⟨_, _, _, e1, e2, trivial⟩
    · replace e1 := (e1.trans (pf_call_eq ((nf_isPerson a2).2 (by rw [h5]; exact cp)))).trans (if_pos (by decide))
      replace e3 := (e3.trans (pf_call_eq ((nf_isPersonR a2).2 cp))).trans (if_pos (by decide))
      replace e2 := (e2.trans (pf_call_eq e3)).trans (if_neg (by decide))
      exact ⟨_, _, _, e1, e2, trivial⟩
  · replace e1 := (e1.trans (pf_call_eq ((nf_isLaw a1).2 cl))).trans (if_pos (by decide))
    replace e3 := (e3.trans (pf_call_eq ((nf_isLawR a1).2 cl))).trans (if_pos (by decide))
    replace e2 := (e2.trans (pf_call_eq e3)).trans (if_neg (by decide))
    exact ⟨_, _, _, e1, e2, trivial⟩
/-! whether knowing helps -/
theorem wr.trust {c : Nat} {n t : Int} {V W : pm_M} (h : wr c n V W) (ht : 0 ≤ t ∧ t ≤ 16) : wr c n (pm_up V 73 7 t) (pm_up W 90 47 t) := by
  obtain ⟨⟨hc, h73, hcn, hwn, h13⟩, ⟨hS, hb⟩, ⟨v1, v2, v3, v4, v5, v6⟩, ⟨s1, s2, s3, s4, s5, s6⟩, ⟨t1, t2, t3⟩, ⟨a1, a2, a3, a4, a5, a6, a7, a8⟩, hj⟩ := h
  have vc : ∀ k : Nat, k ≠ 73 → pm_up V 73 7 t k = V k := fun k q => funext fun i => pm_up_c q
  have wc : ∀ k : Nat, k ≠ 90 → pm_up W 90 47 t k = W k := fun k q => funext fun i => pm_up_c q
  have vf : ∀ i : Nat, i ≠ 7 → pm_up V 73 7 t 73 i = V 73 i := fun i q => pm_up_i q
  have wf : ∀ i : Nat, i ≠ 47 → pm_up W 90 47 t 90 i = W 90 i := fun i q => pm_up_i q
  have fr : fR W (pm_up W 90 47 t) := ⟨fun k q1 _ _ _ => wc k q1, fun i q => wf i (by omega)⟩
  unfold wr
  rw [vf 0 (by decide), vc c (by omega), wf 16 (by decide), vf 13 (by decide), vf 1 (by decide), vf 2 (by decide), vf 5 (by decide), vf 6 (by decide), vf 10 (by decide), vf 11 (by decide), vf 12 (by decide), wf 48 (by decide), wf 49 (by decide), wf 42 (by decide), wf 43 (by decide), wf 44 (by decide), wf 45 (by decide), wf 46 (by decide), wc 110 (by decide), wc 111 (by decide), vc 74 (by decide), vc 75 (by decide), pm_up_s, pm_up_s]
  exact ⟨⟨hc, h73, hcn, hwn, h13⟩, ⟨hS.eq (vc c (by omega)) (vc (c + 1) (by omega)) (vc (c + 2) (by omega)) (vc (c + 3) (by omega)) (vc (c + 4) (by omega)) (vc (c + 5) (by omega)) (wf 16 (by decide)) (wf 19 (by decide)) (wf 20 (by decide)) (wf 21 (by decide)) (wc 97 (by decide)) (wc 98 (by decide)) (wc 99 (by decide)), fr.b hb⟩, ⟨v1, v2, v3, v4, v5, v6⟩, ⟨s1, s2, s3, s4, s5, s6⟩, ⟨rfl, ht.1, ht.2⟩, ⟨a1, a2, a3, a4, a5, a6, a7, a8⟩, hj⟩
theorem wr.trustAt {c : Nat} {n p l : Int} {V W : pm_M} (h : wr c n V W) (hp : 0 ≤ p ∧ p ≤ 16) (hl : -99 ≤ l ∧ l ≤ 99) : F_X10_trustAt p l V = (0, pm_up V 73 7 (wk_t p l (W 90 20))) := by
  obtain ⟨⟨hc, h73, hcn, hwn, h13⟩, ⟨⟨-, -, -, hs, -⟩, hb⟩, -⟩ := h
  have b16 := hb.1
  exact cw_trust hc h73 (hs (by omega)).2.2.2.2.2 hb.2.1.1 hp hl
theorem mB_knowing {V W : pm_M} (h : wq V W) (a1 a2 a3 a4 : Int) : ∃ y V1 W1, F_X11_knowing a1 a2 a3 a4 V = (y, V1) ∧ F_X12_knowing a1 a2 a3 a4 W = (y, W1) ∧ True := by
  obtain ⟨y, Z, X, f1, f2, f3⟩ := wz_weighs h a1 a2 a3 a4
  have e1 := (F_X11_knowing_eq a1 a2 a3 a4 V).trans (pf_call_eq f1)
  have e2 := ((F_X12_knowing_eq a1 a2 a3 a4 W).trans (pf_let_eq rfl)).trans (pf_call_eq f2)
  rcases f3 with ⟨rfl, rfl, rfl⟩ | ⟨rfl, cl, c4, c, -, k, -, g⟩
  · replace e1 := e1.trans (if_neg (by decide))
    replace e2 := e2.trans (if_neg (by decide))
    exact ⟨_, _, _, e1, e2, trivial⟩
  · obtain ⟨p, p1, p2, -, -⟩ := k.ml
    have t0 : wk_t 0 a4 (X 90 20) = 0 := by
      have b := k.1.2.1.2.2.1.1
      have q : 0 ≤ (if a4 < 0 then (-a4) / pm_mx 1 (X 90 20 / 2) else a4 / X 90 20) := by
        split
        · exact (wk_tq (by omega) (by omega) (wk_m1 _)).1
        · exact (wk_tq (by omega) (by omega) b).1
      unfold wk_t
      obtain ⟨d, hd⟩ : ∃ d, (if a4 < 0 then (-a4) / pm_mx 1 (X 90 20 / 2) else a4 / X 90 20) = d := ⟨_, rfl⟩
      rw [hd] at q ⊢
      unfold pm_mx
      split <;> omega
    have k0 := k.1.trust (t := 0) ⟨by decide, by decide⟩
    have k1 := k.1.trustAt (p := 0) (l := a4) ⟨by decide, by decide⟩ c4
    rw [t0] at k1
    obtain ⟨y3, Z1, hZ⟩ : ∃ y Z1, F_X10_weigh a1 (pm_up Z 73 7 0) = (y, Z1) := ⟨_, _, rfl⟩
    obtain ⟨y4, X1, hX⟩ : ∃ y X1, F_X12_weighs a1 (pm_up X 90 47 0) = (y, X1) := ⟨_, _, rfl⟩
    obtain ⟨d1, -⟩ := ww_weigh k0 cl hZ hX
    obtain ⟨q, q1, q2, -, -⟩ := d1.ml
    replace e1 := (((((e1.trans (if_pos (by decide))).trans (pf_call_eq p1)).trans (pf_call_eq k1)).trans (pf_call_eq hZ)).trans (pf_call_eq q1))
    replace e2 := ((((((e2.trans (if_pos (by decide))).trans (pf_call_eq p2)).trans (pf_let_eq rfl)).trans (pf_let_eq rfl)).trans (pf_call_eq hX)).trans (pf_call_eq q2))
    by_cases cq : q = p
    · exact ⟨_, _, _, e1.trans (if_neg (fun r => r cq)), e2.trans (if_neg (fun r => r cq)), trivial⟩
    · exact ⟨_, _, _, e1.trans (if_pos cq), e2.trans (if_pos cq), trivial⟩
/-! without a scene -/
section MA2
variable {V : pm_M}
theorem mA_right (_ : (V 0 8 = 45 ∧ V 45 0 = 0) ∨ (V 0 8 = 51 ∧ V 51 0 = 0)) (h5 : V 4 1 = 0) (_ : V 4 6 = 0) (_ : V 15 0 = 0) (_ : V 25 0 = 0) (_ : V 35 0 = 0) (a1 a2 a3 : Int) : F_X11_right a1 a2 a3 V = (-1, V) := by
  have e := F_X11_right_eq a1 a2 a3 V
  by_cases c : 0 ≤ a1 ∧ a1 ≤ 6
  · exact (((e.trans (pf_call_eq ((nf_isLaw a1).1 c))).trans (if_neg (by decide))).trans (pf_call_eq ((nf_isPerson a2).2 (by omega)))).trans (if_pos (by decide))
  · exact (e.trans (pf_call_eq ((nf_isLaw a1).2 c))).trans (if_pos (by decide))
theorem mA_worth (_ : (V 0 8 = 45 ∧ V 45 0 = 0) ∨ (V 0 8 = 51 ∧ V 51 0 = 0)) (h5 : V 4 1 = 0) (_ : V 4 6 = 0) (_ : V 15 0 = 0) (_ : V 25 0 = 0) (_ : V 35 0 = 0) (a1 a2 a3 : Int) : F_X11_worth a1 a2 a3 V = (-1, V) := by
  have e := F_X11_worth_eq a1 a2 a3 V
  by_cases c : 0 ≤ a1 ∧ a1 ≤ 6
  · exact (((e.trans (pf_call_eq ((nf_isLaw a1).1 c))).trans (if_neg (by decide))).trans (pf_call_eq ((nf_isPerson a2).2 (by omega)))).trans (if_pos (by decide))
  · exact (e.trans (pf_call_eq ((nf_isLaw a1).2 c))).trans (if_pos (by decide))
theorem mA_knowing (_ : (V 0 8 = 45 ∧ V 45 0 = 0) ∨ (V 0 8 = 51 ∧ V 51 0 = 0)) (h5 : V 4 1 = 0) (_ : V 4 6 = 0) (_ : V 15 0 = 0) (_ : V 25 0 = 0) (_ : V 35 0 = 0) (a1 a2 a3 a4 : Int) : F_X11_knowing a1 a2 a3 a4 V = (-1, V) :=
  ((F_X11_knowing_eq a1 a2 a3 a4 V).trans (pf_call_eq (mA_weighs h5 a1 a2 a3 a4))).trans (if_neg (by decide))
end MA2
