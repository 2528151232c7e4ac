/-! WEIGHTS: a hump -/
def ps_v (W : pm_M) (a1 a2 : Int) : Int := pm_mx 1 ((W 98 0 + W 100 (4 * (a1 / 100).toNat)) + (W 98 1 * (a2 / 10)))
def ps_f (W : pm_M) (a1 a2 : Int) : Int := pm_mx 1 ((W 98 2 + W 100 (4 * (a1 / 100).toNat + 1)) + (W 98 3 * (a2 % 10)))
def ps_g (W : pm_M) (a1 a2 : Int) : Nat → Int := wk_h (fun j => W 97 (3 * j)) (fun j => W 97 (3 * j + 1)) (fun j => W 97 (3 * j + 2)) ((a1 / 10) % 10).toNat (ps_v W a1 a2)
def ps_r (W : pm_M) (a1 a2 : Int) : Nat → Int := wk_s (fun j => W 97 (3 * j)) (a1 % 10).toNat (ps_f W a1 a2)
/-- what works writes but the trust, out of what W0 holds -/
def wg (W0 : pm_M) (a1 a2 n : Int) (W : pm_M) : Prop := W 90 48 = (a1 / 10) % 10 ∧ W 90 49 = a1 % 10 ∧ W 90 42 = ps_v W0 a1 a2 ∧ W 90 43 = ps_f W0 a1 a2 ∧ W 90 44 = wk_S (ps_g W0 a1 a2) n.toNat ∧ W 90 45 = wk_S (ps_r W0 a1 a2) n.toNat ∧ W 90 46 = wk_S (fun j => ps_g W0 a1 a2 j * ps_r W0 a1 a2 j) n.toNat ∧ ∀ j : Nat, (j : Int) < n → W 110 j = ps_g W0 a1 a2 j ∧ W 111 j = ps_r W0 a1 a2 j
theorem wg_pose {W0 W W1 : pm_M} {z a1 a2 a3 n : Int} (hb : wb W0) (f : fR W0 W) (hn : W0 90 16 = n) (t0 : 0 ≤ a1) (t1 : a1 / 100 < W0 90 23) (t2 : (a1 / 10) % 10 < n) (t3 : a1 % 10 < n) (s : 0 ≤ a2 ∧ a2 ≤ 99) (l : -99 ≤ a3 ∧ a3 ≤ 99) (hW : F_X12_works a1 a2 a3 W = (z, W1)) : wg W0 a1 a2 n W1 ∧ W1 90 47 = wk_t (W0 100 (4 * (a1 / 100).toNat + 2)) a3 (W0 90 20) ∧ fR W W1 := by
  have e97 := f.1 97 (by decide) (by decide) (by decide) (by decide)
  have e98 := f.1 98 (by decide) (by decide) (by decide) (by decide)
  have e100 := f.1 100 (by decide) (by decide) (by decide) (by decide)
  have e20 := f.2 20 (by omega)
  obtain ⟨p, sv, sf, tr, g, r, rfl, esv, esf, etr, eg, er, -, -, w48, w49, w42, w43, w47, w44, w45, w46, wj, fw⟩ := rw_pose (f.b hb) ((f.2 16 (by omega)).trans hn) t0 (by rw [f.2 23 (by omega)]; exact t1) t2 t3 s l hW
  rw [e98, e100] at esv esf
  rw [e100, e20] at etr
  rw [e97] at eg er
  have x1 : sv = ps_v W0 a1 a2 := esv
  have x2 : sf = ps_f W0 a1 a2 := esf
  rw [x1] at eg w42
  rw [x2] at er w43
  have x3 : g = ps_g W0 a1 a2 := eg
  have x4 : r = ps_r W0 a1 a2 := er
  rw [x3] at w44
  rw [x4] at w45
  rw [x3, x4] at w46 wj
  exact ⟨⟨w48, w49, w42, w43, w44, w45, w46, wj⟩, w47.trans etr, fw⟩
theorem wg.fr {W0 W X : pm_M} {a1 a2 n : Int} (h : wg W0 a1 a2 n W) (f : ∀ k i, k ≠ 112 → ¬ (k = 90 ∧ i = 51) → X k i = W k i) : wg W0 a1 a2 n X := by
  obtain ⟨w48, w49, w42, w43, w44, w45, w46, wj⟩ := h
  refine ⟨(f 90 48 (by decide) (by decide)).trans w48, (f 90 49 (by decide) (by decide)).trans w49, (f 90 42 (by decide) (by decide)).trans w42, (f 90 43 (by decide) (by decide)).trans w43, (f 90 44 (by decide) (by decide)).trans w44, (f 90 45 (by decide) (by decide)).trans w45, (f 90 46 (by decide) (by decide)).trans w46, fun j hj => ⟨(f 110 j (by decide) (by omega)).trans (wj j hj).1, (f 111 j (by decide) (by omega)).trans (wj j hj).2⟩⟩
/-- the class's trial with another trust beside the reference's, worked out anew -/
theorem wr.swap {c : Nat} {n t a1 a2 : Int} {V W W' W0 : pm_M} (h : wr c n V W) (hg : wg W0 a1 a2 n W) (hg' : wg W0 a1 a2 n W') (f : fR W W') (et : W' 90 47 = t) (ht : 0 ≤ t ∧ t ≤ 16) : wr c n (pm_up V 73 7 t) W' := by
  have h0 := h.trust ht
  obtain ⟨⟨hc, h73, hcn, hwn, h13⟩, ⟨hS, hb⟩, ⟨v1, v2, v3, v4, v5, v6⟩, ⟨s1, s2, s3, s4, s5, s6⟩, -, ⟨a1, a2, a3, a4, a5, a6, a7, a8⟩, hj⟩ := h0
  obtain ⟨⟨-, -, -, hwn0, -⟩, ⟨-, hb0⟩, -⟩ := h
  have wc : ∀ k : Nat, k ≠ 90 → pm_up W 90 47 t k = W k := fun k q => funext fun i => pm_up_c q
  have wf : ∀ i : Nat, i ≠ 47 → pm_up W 90 47 t 90 i = W 90 i := fun i q => pm_up_i q
  obtain ⟨w48, w49, w42, w43, w44, w45, w46, wj⟩ := hg
  obtain ⟨x48, x49, x42, x43, x44, x45, x46, xj⟩ := hg'
  have e : ∀ i : Nat, i = 48 ∨ i = 49 ∨ i = 42 ∨ i = 43 ∨ i = 44 ∨ i = 45 ∨ i = 46 → pm_up W 90 47 t 90 i = W' 90 i := fun i q => by
    rw [wf i (by omega)]
    rcases q with rfl | rfl | rfl | rfl | rfl | rfl | rfl
    · rw [w48, x48]
    · rw [w49, x49]
    · rw [w42, x42]
    · rw [w43, x43]
    · rw [w44, x44]
    · rw [w45, x45]
    · rw [w46, x46]
  have jj : ∀ j : Nat, (j : Int) < n → pm_up W 90 47 t 110 j = W' 110 j ∧ pm_up W 90 47 t 111 j = W' 111 j := fun j hj' => by
    rw [wc 110 (by decide), wc 111 (by decide), (wj j hj').1, (wj j hj').2, (xj j hj').1, (xj j hj').2]
    exact ⟨rfl, rfl⟩
  rw [e 48 (by decide)] at v1 v3 v4
  rw [e 49 (by decide)] at v2 v5 v6
  rw [e 42 (by decide)] at s1 s3 s4
  rw [e 43 (by decide)] at s2 s5 s6
  rw [e 44 (by decide)] at a1 a4 a7
  rw [e 45 (by decide)] at a2 a5 a8
  rw [e 46 (by decide)] at a3 a6
  have hS' : sq_sc c (pm_up V 73 7 t) W' := hS.eq rfl rfl rfl rfl rfl rfl ((f.2 16 (by omega)).trans (wf 16 (by decide)).symm) ((f.2 19 (by omega)).trans (wf 19 (by decide)).symm) ((f.2 20 (by omega)).trans (wf 20 (by decide)).symm) ((f.2 21 (by omega)).trans (wf 21 (by decide)).symm) ((f.1 97 (by decide) (by decide) (by decide) (by decide)).trans (wc 97 (by decide)).symm) ((f.1 98 (by decide) (by decide) (by decide) (by decide)).trans (wc 98 (by decide)).symm) ((f.1 99 (by decide) (by decide) (by decide) (by decide)).trans (wc 99 (by decide)).symm)
  refine ⟨⟨hc, h73, hcn, (f.2 16 (by omega)).trans hwn0, h13⟩, ⟨hS', f.b hb0⟩, ⟨v1, v2, v3, v4, v5, v6⟩, ⟨s1, s2, s3, s4, s5, s6⟩, ⟨by rw [pm_up_s, et], by rw [et]; exact ht.1, by rw [et]; exact ht.2⟩, ⟨a1, a2, a3, ?_, ?_, ?_, a7, a8⟩, fun j hj' => ?_⟩
  · rw [a4]
    exact wk_S_eq _ fun j hj' => (jj j (by omega)).1
  · rw [a5]
    exact wk_S_eq _ fun j hj' => (jj j (by omega)).2
  · rw [a6]
    exact wk_S_eq _ fun j hj' => by rw [(jj j (by omega)).1, (jj j (by omega)).2]
  · have q := hj j hj'
    rw [(jj j hj').1, (jj j hj').2] at q
    exact q
theorem mB_hump {V W : pm_M} (h : wq V W) (a1 a2 a3 : Int) : ∃ y V1 W1, F_X11_hump a1 a2 a3 V = (y, V1) ∧ F_X12_hump a1 a2 a3 W = (y, W1) ∧ True := by
  have hs := h.1.hs
  have h5 := h.1.2.2.2.2.1
  have e1 := F_X11_hump_eq a1 a2 a3 V
  have e2 := (F_X12_hump_eq a1 a2 a3 W).trans (pf_let_eq rfl)
  by_cases ct : 0 ≤ a1 ∧ a1 / 100 < W 90 23 ∧ a1 / 10 % 10 < W 90 16 ∧ a1 % 10 < W 90 16 ∧ 0 ≤ a2 ∧ a2 ≤ 99 ∧ -99 ≤ (0 : Int) ∧ (0 : Int) ≤ 99
  · replace e2 := (e2.trans (pf_call_eq ((nf_isTrialR a1 a2 0).1 ct))).trans (if_neg (by decide))
    by_cases c3 : 0 ≤ a3 ∧ a3 ≤ 1
    · replace e1 := ((((e1.trans (if_neg (show ¬ a3 < 0 by omega))).trans (if_neg (show ¬ 1 < a3 by omega))).trans (pf_call_eq ((nf_isTrial hs a1 a2 0).1 (by rw [h5]; exact ct)))).trans (if_pos (by decide)))
      replace e2 := (e2.trans (pf_call_eq ((nf_in a3 0 1).1 c3))).trans (if_pos (by decide))
      obtain ⟨n, hn⟩ : ∃ n, W 90 16 = n := ⟨_, rfl⟩
      rw [hn] at ct
      obtain ⟨t0, t1, t2, t3, s1, s2, -, -⟩ := ct
      obtain ⟨y1, V1, hV⟩ : ∃ y Y, F_X11_pose a1 a2 0 V = (y, Y) := ⟨_, _, rfl⟩
      obtain ⟨y2, W1, hW⟩ : ∃ y Y, F_X12_works a1 a2 0 W = (y, Y) := ⟨_, _, rfl⟩
      obtain ⟨y3, Z, hZ⟩ : ∃ y Y, F_X10_weigh 4 V1 = (y, Y) := ⟨_, _, rfl⟩
      obtain ⟨y4, X, hX⟩ : ∃ y Y, F_X12_weighs 4 W1 = (y, Y) := ⟨_, _, rfl⟩
      obtain ⟨c, c0, c1, -, -, c2, c3'⟩ := wz_pose h.1 h.2.1 h.2.2.1 h.2.2.2 t0 t1 (by rw [hn]; exact t2) (by rw [hn]; exact t3) ⟨s1, s2⟩ ⟨by decide, by decide⟩ hV hW
      rw [hn] at c1
      obtain ⟨d1, d2⟩ := ww_weigh c1 ⟨by decide, by decide⟩ hZ hX
      obtain ⟨g1, g2, g3⟩ := wg_pose (W0 := W) (W := W) h.2.2.1 fR.rf hn t0 t1 t2 t3 ⟨s1, s2⟩ ⟨by decide, by decide⟩ hW
      obtain ⟨p, p1, p2⟩ := d1.kind 3
      have third : ∀ (l : Int) (U U1 U2 : pm_M) (v u1 u2 : Int), F_X12_works a1 a2 l U = (u1, U1) → F_X12_weighs 4 U1 = (u2, U2) → F_X12_chanceOfKind 3 U2 = (v, U2) → F_X12_third a1 a2 l U = (v, U2) := fun l U U1 U2 v u1 u2 k1 k2 k3 => (((((((F_X12_third_eq a1 a2 l U).trans (pf_let_eq rfl)).trans (pf_call_eq k1)).trans (pf_let_eq rfl)).trans (pf_let_eq rfl)).trans (pf_call_eq k2)).trans (pf_call_eq k3))
      replace e1 := ((e1.trans (pf_call_eq hV)).trans (pf_call_eq hZ)).trans (pf_call_eq p1)
      replace e2 := e2.trans (pf_call_eq (third 0 W W1 X p y2 y4 hW hX p2))
      by_cases cp : p = 0
      · exact ⟨_, _, _, e1.trans (if_neg (fun r => r cp)), e2.trans (if_neg (fun r => r cp)), trivial⟩
      · replace e1 := (e1.trans (if_pos cp)).trans (pf_let_eq rfl)
        replace e2 := e2.trans (if_pos cp)
        have pn : ((a1 / 100).toNat : Int) < V 4 1 := by rw [h5]; omega
        have q7 : Z 7 (a1 / 100).toNat = W 100 (4 * (a1 / 100).toNat + 2) := by
          have q := h.2.1.1 (a1 / 100).toNat 2 pn (by decide)
          rw [show 0 + (4 * (a1 / 100).toNat + 2) = 4 * (a1 / 100).toNat + 2 by omega] at q
          exact ((c2.tr d2.C) 7 _ (Or.inl (Or.inl (by decide)))).trans q
        rw [q7] at e1
        obtain ⟨be, hbe⟩ : ∃ be, W 100 (4 * (a1 / 100).toNat + 2) = be := ⟨_, rfl⟩
        have bbe : 0 ≤ be ∧ be ≤ 16 := by
          rw [← hbe]
          have b23 := h.2.2.1.2.2.2.1
          exact (h.2.2.1.2.2.2.2.2.2.2 (a1 / 100).toNat (by omega)).2.2
        rw [hbe] at e1 g2
        have gX := g1.fr d2.2
        have fX := c3'.tr d2.R
        obtain ⟨B, hB, e1⟩ := pf_loop e1
        obtain ⟨C, hC, e2⟩ := pf_loop e2
        have key := pf_sim (d := ((0 : Int), V)) (d' := ((0 : Int), W)) (b := B) (b' := C) (fun s t => s.1 = t.1 + 1 ∧ 0 ≤ t.1 ∧ t.1 ≤ 99 ∧ wr c n s.2 t.2 ∧ wg W a1 a2 n t.2 ∧ fR W t.2) (fun o p => o.1 = p.1) (fun s => (101 - s.1).toNat) ?_ (1, Z) (0, X) ⟨rfl, Int.le_refl _, by dsimp only; omega, d1.1, gX, fX⟩
        · rw [← e1, ← e2] at key
          exact ⟨(F_X11_hump a1 a2 a3 V).1, (F_X11_hump a1 a2 a3 V).2, (F_X12_hump a1 a2 a3 W).2, rfl, Prod.ext key.symm rfl, trivial⟩
        · rintro ⟨x, U⟩ ⟨x', Y⟩ ⟨p0, p1, p3, p4, p5, p6⟩
          dsimp only at p0 p1 p3 p4 p5 p6
          have q1 := congrFun hB (x, U)
          have q2 := congrFun hC (x', Y)
          simp only [] at q1 q2
          by_cases cx : 99 < x
          · exact Or.inr ⟨_, _, q1.trans (if_pos cx), q2.trans (if_pos (show 99 ≤ x' by omega)), by dsimp only; omega⟩
          · replace q1 := q1.trans (if_neg cx)
            replace q2 := q2.trans (if_neg (show ¬ 99 ≤ x' by omega))
            have y20 : Y 90 20 = W 90 20 := p6.2 20 (by omega)
            have step : ∀ l : Int, -99 ≤ l → l ≤ 99 → ∃ v Z1 X1 U1 u1, F_X10_trustAt be l U = (0, U1) ∧ F_X10_weigh 4 U1 = (u1, Z1) ∧ F_X10_chanceOfKind 3 Z1 = (v, Z1) ∧ F_X12_third a1 a2 l Y = (v, X1) ∧ wr c n Z1 X1 ∧ wg W a1 a2 n X1 ∧ fR W X1 := by
              intro l l1 l2
              obtain ⟨u2, Y1, hY⟩ : ∃ y Z, F_X12_works a1 a2 l Y = (y, Z) := ⟨_, _, rfl⟩
              obtain ⟨k1, k2, k3⟩ := wg_pose h.2.2.1 p6 hn t0 t1 t2 t3 ⟨s1, s2⟩ ⟨l1, l2⟩ hY
              rw [hbe] at k2
              have tb := wk_t_b (p := be) (l := l) (w := W 90 20) bbe ⟨l1, l2⟩ h.2.2.1.2.1.1
              have sw := p4.swap p5 k1 k3 k2 tb
              have ta := p4.trustAt bbe ⟨l1, l2⟩
              rw [y20] at ta
              obtain ⟨u3, Z1, hZ1⟩ : ∃ y Z, F_X10_weigh 4 (pm_up U 73 7 (wk_t be l (W 90 20))) = (y, Z) := ⟨_, _, rfl⟩
              obtain ⟨u4, X1, hX1⟩ : ∃ y Z, F_X12_weighs 4 Y1 = (y, Z) := ⟨_, _, rfl⟩
              obtain ⟨m1, m2⟩ := ww_weigh sw ⟨by decide, by decide⟩ hZ1 hX1
              obtain ⟨v, v1, v2⟩ := m1.kind 3
              exact ⟨v, Z1, X1, _, u3, ta, hZ1, v1, third l Y Y1 X1 v u2 u4 hY hX1 v2, m1.1, k1.fr m2.2, p6.tr (k3.tr m2.R)⟩
            by_cases c0 : a3 = 0
            · obtain ⟨v, Z1, X1, U1, u1, v1, v2, v3, v4, v5, v6, v7⟩ := step x (by omega) (by omega)
              replace q1 := ((((q1.trans (if_neg (fun r => r c0))).trans (pf_call_eq v1)).trans (pf_call_eq v2)).trans (pf_call_eq v3)).trans (pf_let_eq rfl)
              rw [p0] at v4
              replace q2 := ((q2.trans (if_neg (fun r => r c0))).trans (pf_call_eq v4)).trans (pf_let_eq rfl)
              by_cases cv : p ≤ pm_w32 (2 * v)
              · exact Or.inl ⟨_, _, (q1.trans (if_pos cv)).trans (pf_let_eq rfl), (q2.trans (if_neg (by omega))).trans (pf_let_eq rfl), ⟨by dsimp only; omega, by dsimp only; omega, by dsimp only; omega, v5, v6, v7⟩, by dsimp only; omega⟩
              · exact Or.inr ⟨_, _, q1.trans (if_neg cv), q2.trans (if_pos (by omega)), by dsimp only; omega⟩
            · obtain ⟨v, Z1, X1, U1, u1, v1, v2, v3, v4, v5, v6, v7⟩ := step (-x) (by omega) (by omega)
              replace q1 := ((((q1.trans (if_pos c0)).trans (pf_call_eq v1)).trans (pf_call_eq v2)).trans (pf_call_eq v3)).trans (pf_let_eq rfl)
              rw [show -x = (-x') - 1 by omega] at v4
              replace q2 := ((q2.trans (if_pos c0)).trans (pf_call_eq v4)).trans (pf_let_eq rfl)
              by_cases cv : p ≤ pm_w32 (2 * v)
              · exact Or.inl ⟨_, _, (q1.trans (if_pos cv)).trans (pf_let_eq rfl), (q2.trans (if_neg (by omega))).trans (pf_let_eq rfl), ⟨by dsimp only; omega, by dsimp only; omega, by dsimp only; omega, v5, v6, v7⟩, by dsimp only; omega⟩
              · exact Or.inr ⟨_, _, q1.trans (if_neg cv), q2.trans (if_pos (by omega)), by dsimp only; omega⟩
    · replace e2 := (e2.trans (pf_call_eq ((nf_in a3 0 1).2 c3))).trans (if_neg (by decide))
      by_cases c0 : a3 < 0
      · exact ⟨_, _, _, e1.trans (if_pos c0), e2, trivial⟩
      · exact ⟨_, _, _, (e1.trans (if_neg c0)).trans (if_pos (by omega)), e2, trivial⟩
  · replace e2 := (e2.trans (pf_call_eq ((nf_isTrialR a1 a2 0).2 ct))).trans (if_pos (by decide))
    by_cases c0 : a3 < 0
    · exact ⟨_, _, _, e1.trans (if_pos c0), e2, trivial⟩
    · by_cases c1 : 1 < a3
      · exact ⟨_, _, _, (e1.trans (if_neg c0)).trans (if_pos c1), e2, trivial⟩
      · exact ⟨_, _, _, (((e1.trans (if_neg c0)).trans (if_neg c1)).trans (pf_call_eq ((nf_isTrial hs a1 a2 0).2 (by rw [h5]; exact ct)))).trans (if_neg (by decide)), e2, trivial⟩
section MA3
variable {V : pm_M}
theorem mA_hump (_ : (V 0 8 = 45 ∧ V 45 0 = 0) ∨ (V 0 8 = 51 ∧ V 51 0 = 0)) (h5 : V 4 1 = 0) (_ : V 4 6 = 0) (_ : V 15 0 = 0) (_ : V 25 0 = 0) (_ : V 35 0 = 0) (a1 a2 a3 : Int) : F_X11_hump a1 a2 a3 V = (-1, V) := by
  have e := F_X11_hump_eq a1 a2 a3 V
  by_cases c0 : a3 < 0
  · exact e.trans (if_pos c0)
  · by_cases c1 : 1 < a3
    · exact (e.trans (if_neg c0)).trans (if_pos c1)
    · exact (((e.trans (if_neg c0)).trans (if_neg c1)).trans (pf_call_eq (mA_isTrial h5 a1 a2 0))).trans (if_neg (by decide))
end MA3
