/-! WEIGHTS: the reference's methods in closed form -/
def wt (n : Int) (g : Nat → Int) (W X : pm_M) : Prop := (∀ k i, k ≠ 112 → X k i = W k i) ∧ ∀ j : Nat, (j : Int) < n → X 112 j = g j
def wy (n : Int) (g : Nat → Int) (W X : pm_M) : Prop := (∀ k i, k ≠ 112 → ¬ (k = 90 ∧ i = 51) → X k i = W k i) ∧ (∀ j : Nat, (j : Int) < n → X 112 j = g j) ∧ X 90 51 = wk_S g n.toNat
theorem wt.of {n : Int} {g : Nat → Int} {W W' X : pm_M} (h : wt n g W' X) (e : ∀ k i, k ≠ 112 → W' k i = W k i) : wt n g W X := ⟨fun k i q => (h.1 k i q).trans (e k i q), h.2⟩
theorem rt_voice {n z : Int} {W X : pm_M} (hn : W 90 16 = n) (hZ : F_X12_takesVoice W = (z, X)) : wt n (W 110) W X := by
  have e := hZ.symm.trans (F_X12_takesVoice_eq W)
  simp only [pf_let] at e
  obtain ⟨B, hB, e⟩ := pf_loop e
  obtain ⟨U, e1, e2, e3⟩ := wf_fill (d := ((0 : Int), W)) (n := n) (w := 112) (g := W 110) (S := W) (fin := fun U => ((0 : Int), U)) (B := B) (fun x U x0 hU => by
    have q := congrFun hB (x, U)
    dsimp only at q
    have u16 : U 90 16 = n := (hU 90 16 (by decide)).trans hn
    refine ⟨fun c1 => by rw [if_pos (show U 90 16 ≤ x by omega)] at q; exact q, fun c1 => ?_⟩
    rw [if_neg (show ¬ U 90 16 ≤ x by omega), hU 110 x.toNat (by decide)] at q
    exact q)
  obtain ⟨-, rfl⟩ := Prod.mk.inj (e.trans e1)
  exact ⟨e2, e3⟩
theorem rt_face {n z : Int} {W X : pm_M} (hn : W 90 16 = n) (hZ : F_X12_takesFace W = (z, X)) : wt n (fun j => W 97 (3 * j + 2) * W 111 j) W X := by
  have e := hZ.symm.trans (F_X12_takesFace_eq W)
  simp only [pf_let] at e
  obtain ⟨B, hB, e⟩ := pf_loop e
  obtain ⟨U, e1, e2, e3⟩ := wf_fill (d := ((0 : Int), W)) (n := n) (w := 112) (g := fun j => W 97 (3 * j + 2) * W 111 j) (S := W) (fin := fun U => ((0 : Int), U)) (B := B) (fun x U x0 hU => by
    have q := congrFun hB (x, U)
    dsimp only at q
    have i2 : ((3 * x) + 2).toNat = 3 * x.toNat + 2 := by omega
    have u16 : U 90 16 = n := (hU 90 16 (by decide)).trans hn
    refine ⟨fun c1 => by rw [if_pos (show U 90 16 ≤ x by omega)] at q; exact q, fun c1 => ?_⟩
    rw [if_neg (show ¬ U 90 16 ≤ x by omega), i2, hU 97 (3 * x.toNat + 2) (by decide), hU 111 x.toNat (by decide)] at q
    exact q)
  obtain ⟨-, rfl⟩ := Prod.mk.inj (e.trans e1)
  exact ⟨e2, e3⟩
theorem rt_odds {n z t F : Int} {W X : pm_M} (hn : W 90 16 = n) (hn0 : 0 ≤ n) (ht : W 90 47 = t) (hF : W 90 45 = F) (hZ : F_X12_takesOdds W = (z, X)) : (wk_S (fun j => ((t * n) * W 110 j) * W 111 j + ((16 - t) * F) * W 110 j) n.toNat ≠ 0 → wt n (fun j => ((t * n) * W 110 j) * W 111 j + ((16 - t) * F) * W 110 j) W X) ∧ (wk_S (fun j => ((t * n) * W 110 j) * W 111 j + ((16 - t) * F) * W 110 j) n.toNat = 0 → wt n (W 110) W X) := by
  obtain ⟨g, hg⟩ : ∃ g : Nat → Int, g = fun j => ((t * n) * W 110 j) * W 111 j + ((16 - t) * F) * W 110 j := ⟨_, rfl⟩
  have hg' : ∀ j : Nat, ((t * n) * W 110 j) * W 111 j + ((16 - t) * F) * W 110 j = g j := fun j => by rw [hg]
  rw [← hg]
  have e := hZ.symm.trans (F_X12_takesOdds_eq W)
  simp only [pf_let] at e
  rw [hn] at e
  obtain ⟨B, hB, e⟩ := pf_loop e
  have key := pf_val_ind2 (d := ((0 : Int), W)) (b := B) (fun s => 0 ≤ s.2.1 ∧ s.2.1 ≤ n ∧ (∀ k i, k ≠ 112 → s.2.2 k i = W k i) ∧ (∀ j : Nat, (j : Int) < s.2.1 → s.2.2 112 j = g j) ∧ s.1 = wk_S g s.2.1.toNat) (fun r => (wk_S g n.toNat ≠ 0 → wt n g W r.2) ∧ (wk_S g n.toNat = 0 → wt n (W 110) W r.2)) (fun s => (n - s.2.1).toNat) ?_ (0, 0, W) ⟨Int.le_refl _, hn0, fun _ _ _ => rfl, fun j hj => absurd hj (by dsimp only; omega), rfl⟩
  · rw [← e] at key
    exact key
  · rintro ⟨y, x, U⟩ ⟨p0, p1, p2, p3, p4⟩
    dsimp only at p0 p1 p2 p3 p4
    have q := congrFun hB (y, x, U)
    dsimp only at q
    by_cases c : n ≤ x
    · have hx : x = n := by omega
      subst hx
      subst p4
      rw [if_pos c] at q
      by_cases c2 : wk_S g x.toNat = 0
      · rw [if_neg (show ¬ ¬ pm_cmp (wk_S g x.toNat) 0 = 0 from fun r => r (pm_cmp_eq0.mpr c2))] at q
        obtain ⟨y2, Y, hY⟩ : ∃ y Y, F_X12_takesVoice U = (y, Y) := ⟨_, _, rfl⟩
        replace q := q.trans (pf_call_eq hY)
        have h := rt_voice ((p2 90 16 (by decide)).trans hn) hY
        have e110 : U 110 = W 110 := funext fun i => p2 110 i (by decide)
        rw [e110] at h
        exact Or.inr ⟨_, q, fun r => absurd c2 r, fun _ => h.of p2⟩
      · rw [if_pos (show ¬ pm_cmp (wk_S g x.toNat) 0 = 0 from fun r => c2 (pm_cmp_eq0.mp r))] at q
        exact Or.inr ⟨_, q, fun _ => ⟨p2, p3⟩, fun r => absurd r c2⟩
    · rw [if_neg c, p2 90 47 (by decide), p2 110 x.toNat (by decide), p2 111 x.toNat (by decide), p2 90 45 (by decide), ht, hF, hg' x.toNat, pm_up_s] at q
      refine Or.inl ⟨_, q, ⟨by dsimp only; omega, by dsimp only; omega, fun k i hk => ?_, fun j hj => ?_, ?_⟩, by dsimp only; omega⟩
      · dsimp only
        rw [pm_up_c hk]
        exact p2 k i hk
      · dsimp only at hj ⊢
        rw [up_at]
        by_cases ej : j = x.toNat
        · rw [if_pos ej, ej]
        · rw [if_neg ej]
          exact p3 j (by omega)
      · dsimp only
        rw [p4, show (x + 1).toNat = x.toNat + 1 by omega]
        rfl
theorem rt_surer {n z A : Int} {W X : pm_M} (hn : W 90 16 = n) (hn0 : 0 ≤ n) (hn9 : n ≤ 9) (hA : W 90 44 = A) (hb : ∀ j : Nat, (j : Int) < n → 0 ≤ W 97 (3 * j + 2) * W 111 j ∧ W 97 (3 * j + 2) * W 111 j ≤ 1000000) (ha : ∀ j : Nat, (j : Int) < n → 0 ≤ W 110 j ∧ W 110 j ≤ 1539) (hZ : F_X12_takesSurer W = (z, X)) : (wk_M (W 110) n.toNat * wk_S (fun j => W 97 (3 * j + 2) * W 111 j) n.toNat < wk_M (fun j => W 97 (3 * j + 2) * W 111 j) n.toNat * A → wt n (fun j => W 97 (3 * j + 2) * W 111 j) W X) ∧ (wk_M (fun j => W 97 (3 * j + 2) * W 111 j) n.toNat * A ≤ wk_M (W 110) n.toNat * wk_S (fun j => W 97 (3 * j + 2) * W 111 j) n.toNat → wt n (W 110) W X) := by
  obtain ⟨g, hg⟩ : ∃ g : Nat → Int, g = fun j => W 97 (3 * j + 2) * W 111 j := ⟨_, rfl⟩
  have bg : ∀ j : Nat, (j : Int) < n → 0 ≤ g j ∧ g j ≤ 1000000 := fun j hj => by rw [hg]; exact hb j hj
  have e := hZ.symm.trans (F_X12_takesSurer_eq W)
  simp only [pf_let] at e
  obtain ⟨y1, V, h1⟩ : ∃ y Y, F_X12_takesFace W = (y, Y) := ⟨_, _, rfl⟩
  replace e := e.trans (pf_call_eq h1)
  have k1 := rt_face hn h1
  rw [← hg] at k1 ⊢
  have v16 : V 90 16 = n := (k1.1 90 16 (by decide)).trans hn
  have v44 : V 90 44 = A := (k1.1 90 44 (by decide)).trans hA
  rw [v16, v44] at e
  obtain ⟨B, hB, e⟩ := pf_loop e
  have key := pf_val_ind2 (d := ((0 : Int), W)) (b := B) (fun s => 0 ≤ s.2.2.2 ∧ s.2.2.2 ≤ n ∧ s.1 = wk_M g s.2.2.2.toNat ∧ s.2.1 = wk_S g s.2.2.2.toNat ∧ s.2.2.1 = wk_M (W 110) s.2.2.2.toNat) (fun r => (wk_M (W 110) n.toNat * wk_S g n.toNat < wk_M g n.toNat * A → wt n g W r.2) ∧ (wk_M g n.toNat * A ≤ wk_M (W 110) n.toNat * wk_S g n.toNat → wt n (W 110) W r.2)) (fun s => (n - s.2.2.2).toNat) ?_ (0, 0, 0, 0) ⟨Int.le_refl _, hn0, rfl, rfl, rfl⟩
  · rw [← e] at key
    exact key
  · rintro ⟨a, b, m, x⟩ ⟨p0, p1, p2, p3, p4⟩
    dsimp only at p0 p1 p2 p3 p4
    have q := congrFun hB (a, b, m, x)
    dsimp only at q
    have B1 := wk_M_b (g := g) (M := 1000000) (by decide) x.toNat (fun j hj => bg j (by omega))
    have B2 := wk_M_b (g := W 110) (M := 1539) (by decide) x.toNat (fun j hj => ha j (by omega))
    have B3 := wk_S_b (g := g) (M := 1000000) (by decide) x.toNat (fun j hj => bg j (by omega))
    rw [← p2] at B1
    rw [← p4] at B2
    rw [← p3] at B3
    by_cases c : n ≤ x
    · have hx : x = n := by omega
      subst hx
      have C2 := pm_mulb (x := m) (y := b) (b := 1539) (d := 9000000) (m := 13851000000) B2.1 B3.1 B2.2 (by omega) (by decide)
      rw [if_pos c, pm_w64_id (x := m * b) ⟨by omega, by omega⟩] at q
      rw [← p2, ← p3, ← p4]
      by_cases c2 : m * b < a * A
      · rw [if_pos (pm_cmp_gt0.mpr c2)] at q
        exact Or.inr ⟨_, q, fun _ => k1, fun r => absurd r (by omega)⟩
      · rw [if_neg (show ¬ 0 < pm_cmp (a * A) (m * b) from fun r => c2 (pm_cmp_gt0.mp r))] at q
        obtain ⟨y2, Y, hY⟩ : ∃ y Y, F_X12_takesVoice V = (y, Y) := ⟨_, _, rfl⟩
        replace q := q.trans (pf_call_eq hY)
        have h := rt_voice v16 hY
        have e110 : V 110 = W 110 := funext fun i => k1.1 110 i (by decide)
        rw [e110] at h
        exact Or.inr ⟨_, q, fun r => absurd r c2, fun _ => h.of k1.1⟩
    · have gx := bg x.toNat (by omega)
      rw [if_neg c, k1.2 x.toNat (by omega), k1.1 110 x.toNat (by decide), pm_w64_id (x := b + g x.toNat) ⟨by omega, by omega⟩] at q
      have x1 : (x + 1).toNat = x.toNat + 1 := by omega
      refine Or.inl ⟨_, q, ⟨by dsimp only; omega, by dsimp only; omega, ?_, ?_, ?_⟩, by dsimp only; omega⟩
      · dsimp only
        rw [x1, p2]
        rfl
      · dsimp only
        rw [x1, p3]
        rfl
      · dsimp only
        rw [x1, p4]
        rfl
theorem rt_between {n z v f sv sf pl : Int} {W X : pm_M} (hn : W 90 16 = n) (hn1 : 1 ≤ n) (hv : W 90 48 = v) (hf : W 90 49 = f) (hsv : W 90 42 = sv) (hsf : W 90 43 = sf) (hpl : (W 97 (3 * v).toNat * sf + W 97 (3 * f).toNat * sv) / (sv + sf) = pl) (bD : ∀ j : Nat, (j : Int) < n → 0 ≤ wk_a (W 97 (3 * j) - pl) + wk_a (W 97 (3 * j + 1) - W 97 ((3 * v) + 1).toNat) ∧ wk_a (W 97 (3 * j) - pl) + wk_a (W 97 (3 * j + 1) - W 97 ((3 * v) + 1).toNat) < 1000) (hZ : F_X12_takesBetween W = (z, X)) : wt n (fun j => if (j : Int) = ((wk_ml (fun j => -(wk_a (W 97 (3 * j) - pl) + wk_a (W 97 (3 * j + 1) - W 97 ((3 * v) + 1).toNat))) (n - 1).toNat : Nat) : Int) then 1 else 0) W X := by
  obtain ⟨D, hD⟩ : ∃ D : Nat → Int, D = fun j => wk_a (W 97 (3 * j) - pl) + wk_a (W 97 (3 * j + 1) - W 97 ((3 * v) + 1).toNat) := ⟨_, rfl⟩
  have hD' : ∀ j : Nat, wk_a (W 97 (3 * j) - pl) + wk_a (W 97 (3 * j + 1) - W 97 ((3 * v) + 1).toNat) = D j := fun j => by rw [hD]
  have bD' : ∀ j : Nat, (j : Int) < n → 0 ≤ D j ∧ D j < 1000 := fun j hj => by rw [← hD' j]; exact bD j hj
  have eD : (fun j => -(wk_a (W 97 (3 * j) - pl) + wk_a (W 97 (3 * j + 1) - W 97 ((3 * v) + 1).toNat))) = fun j => -(D j) := funext fun j => by rw [hD' j]
  rw [eD]
  have e := hZ.symm.trans (F_X12_takesBetween_eq W)
  simp only [far_val, x_val, y_val, pf_let, pf_call] at e
  rw [hsv, hsf, hn, hv, hf, hpl] at e
  obtain ⟨B, hB, e⟩ := pf_loop e
  have key := pf_val_ind2 (d := ((0 : Int), W)) (b := B) (fun s => 0 ≤ s.2.2 ∧ s.2.2 ≤ n ∧ ((s.2.2 = 0 ∧ s.2.1 = 1000) ∨ (1 ≤ s.2.2 ∧ s.1 = ((wk_ml (fun j => -(D j)) (s.2.2 - 1).toNat : Nat) : Int) ∧ s.2.1 = D (wk_ml (fun j => -(D j)) (s.2.2 - 1).toNat)))) (fun r => wt n (fun j => if (j : Int) = ((wk_ml (fun j => -(D j)) (n - 1).toNat : Nat) : Int) then 1 else 0) W r.2) (fun s => (n - s.2.2).toNat) ?_ (0, 1000, 0) ⟨Int.le_refl _, by dsimp only; omega, Or.inl ⟨rfl, rfl⟩⟩
  · rw [← e] at key
    exact key
  · rintro ⟨a, b, x⟩ ⟨p0, p1, p2⟩
    dsimp only at p0 p1 p2
    have q := congrFun hB (a, b, x)
    dsimp only at q
    by_cases c : n ≤ x
    · have hx : x = n := by omega
      subst hx
      rw [if_pos c] at q
      obtain ⟨B2, hB2, q2⟩ := pf_loop q
      have ea : a = ((wk_ml (fun j => -(D j)) (x - 1).toNat : Nat) : Int) := by omega
      rw [← ea]
      obtain ⟨U, e1, e2, e3⟩ := wf_fill (d := (Sum.inr ((0 : Int), W) : (Int × Int × Int) ⊕ (Int × pm_M))) (n := x) (w := 112) (g := fun j : Nat => if (j : Int) = a then 1 else 0) (S := W) (fin := fun U => Sum.inr ((0 : Int), U)) (B := B2) (fun y U y0 hU => by
        have r := congrFun hB2 (y, U)
        dsimp only at r
        show (x ≤ y → B2 (y, U) = .inr (Sum.inr ((0 : Int), U))) ∧ (y < x → B2 (y, U) = .inl (y + 1, pm_up U 112 y.toNat (if ((y.toNat : Nat) : Int) = a then (1 : Int) else 0)))
        rw [Int.toNat_of_nonneg y0]
        refine ⟨fun c1 => by rw [if_pos c1] at r; exact r, fun c1 => ?_⟩
        rw [if_neg (by omega)] at r
        by_cases ca : y = a
        · rw [if_neg (fun h => h ca)] at r
          rw [if_pos ca]
          exact r
        · rw [if_pos ca] at r
          rw [if_neg ca]
          exact r)
      exact Or.inr ⟨_, q2.trans e1, e2, e3⟩
    · have i0 : (3 * x).toNat = 3 * x.toNat := by omega
      have i1 : ((3 * x) + 1).toNat = 3 * x.toNat + 1 := by omega
      rw [if_neg c, i0, i1, hD' x.toNat] at q
      have bx := bD' x.toNat (by omega)
      have xx : ((x.toNat : Nat) : Int) = x := Int.toNat_of_nonneg p0
      by_cases c2 : D x.toNat < b
      · rw [if_pos c2] at q
        refine Or.inl ⟨_, q, ⟨by dsimp only; omega, by dsimp only; omega, Or.inr ⟨by dsimp only; omega, ?_⟩⟩, by dsimp only; omega⟩
        dsimp only
        have ml : wk_ml (fun j => -(D j)) (x + 1 - 1).toNat = x.toNat := by
          rcases p2 with ⟨p2, p3⟩ | ⟨p2, p3, p4⟩
          · rw [show (x + 1 - 1).toNat = 0 by omega, show x.toNat = 0 by omega]
            rfl
          · rw [show (x + 1 - 1).toNat = (x - 1).toNat + 1 by omega]
            show (if -(D (wk_ml (fun j => -(D j)) (x - 1).toNat)) < -(D ((x - 1).toNat + 1)) then (x - 1).toNat + 1 else wk_ml (fun j => -(D j)) (x - 1).toNat) = x.toNat
            rw [show (x - 1).toNat + 1 = x.toNat by omega, ← p4, if_pos (by omega)]
        rw [ml]
        exact ⟨by omega, rfl⟩
      · rw [if_neg c2] at q
        refine Or.inl ⟨_, q, ⟨by dsimp only; omega, by dsimp only; omega, Or.inr ⟨by dsimp only; omega, ?_⟩⟩, by dsimp only; omega⟩
        dsimp only
        rcases p2 with ⟨p2, p3⟩ | ⟨p2, p3, p4⟩
        · omega
        · have ml : wk_ml (fun j => -(D j)) (x + 1 - 1).toNat = wk_ml (fun j => -(D j)) (x - 1).toNat := by
            rw [show (x + 1 - 1).toNat = (x - 1).toNat + 1 by omega]
            show (if -(D (wk_ml (fun j => -(D j)) (x - 1).toNat)) < -(D ((x - 1).toNat + 1)) then (x - 1).toNat + 1 else wk_ml (fun j => -(D j)) (x - 1).toNat) = wk_ml (fun j => -(D j)) (x - 1).toNat
            rw [show (x - 1).toNat + 1 = x.toNat by omega, ← p4, if_neg (by omega)]
          rw [ml]
          exact ⟨p3, p4⟩
/-- the sum behind a row -/
theorem rw_fin {O : Type} {d : O} {n : Int} {g : Nat → Int} {W Y : pm_M} {fin : pm_M → O} {B : Int × pm_M → (Int × pm_M) ⊕ O} (h : wt n g W Y) (hn0 : 0 ≤ n) (hB : ∀ (x : Int) (U : pm_M), B (x, U) = if n ≤ x then .inr (fin U) else .inl (x + 1, pm_up U 90 51 (U 90 51 + U 112 x.toNat))) : ∃ U, pf_val d B (0, pm_up Y 90 51 0) = fin U ∧ wy n g W U := by
  obtain ⟨U, u1, u2, u3⟩ := wf_sum (d := d) (n := n) (S := pm_up Y 90 51 0) (fin := fin) (B := B) hn0 pm_up_s (fun x U x0 => by
    have q := hB x U
    refine ⟨fun c1 => by rw [if_pos c1] at q; exact q, fun c1 => ?_⟩
    rw [if_neg (by omega)] at q
    exact q)
  refine ⟨U, u1, fun k i q1 q2 => ?_, fun j hj => ?_, ?_⟩
  · rw [u2 k i q2, up_ne q2]
    exact h.1 k i q1
  · rw [u2 112 j (by omega), pm_up_c (by decide)]
    exact h.2 j hj
  · rw [u3]
    exact wk_S_eq _ fun j hj => by
      rw [pm_up_c (by decide)]
      exact h.2 j (by omega)
set_option maxHeartbeats 4000000 in
theorem rw_w0 {a n z : Int} {W X : pm_M} (hl : a = 0) (hn : W 90 16 = n) (hn0 : 1 ≤ n) (hZ : F_X12_weighs a W = (z, X)) : wy n (W 110) W X := by
  have hn1 := hn0
  replace hn0 : 0 ≤ n := by omega
  have e := hZ.symm.trans (F_X12_weighs_eq a W)
  simp only [pf_let] at e
  obtain ⟨B, hB, e⟩ := pf_loop e
  have q := congrFun hB (a, 0, W)
  dsimp only at q
  by_cases c : W 90 21 ≤ 0
  · rw [if_pos c, if_neg (show ¬ (a < 0 ∨ 6 < a) by omega), if_pos hl] at q
    obtain ⟨y, Y, hY⟩ : ∃ y Y, F_X12_takesVoice W = (y, Y) := ⟨_, _, rfl⟩
    replace q := q.trans (pf_call_eq hY)
    have k := rt_voice hn hY
    have y16 : Y 90 16 = n := (k.1 90 16 (by decide)).trans hn
    rw [y16] at q
    obtain ⟨B2, hB2, q2⟩ := pf_loop q
    have hB3 : ∀ (x : Int) (U : pm_M), B2 (x, U) = if n ≤ x then .inr (Sum.inr ((0 : Int), U)) else .inl (x + 1, pm_up U 90 51 (U 90 51 + U 112 x.toNat)) := fun x U => congrFun hB2 (x, U)
    obtain ⟨U, u1, u2⟩ := rw_fin (d := Sum.inr ((0 : Int), W)) (fin := fun U => Sum.inr ((0 : Int), U)) k hn0 hB3
    obtain ⟨-, rfl⟩ := Prod.mk.inj (e.trans (pf_val_inr (q2.trans u1)))
    exact u2
  · rw [if_neg c, if_pos (show ¬ a = 5 by omega), if_neg (show ¬ (a < 0 ∨ 6 < a) by omega), if_pos hl] at q
    obtain ⟨y, Y, hY⟩ : ∃ y Y, F_X12_takesVoice W = (y, Y) := ⟨_, _, rfl⟩
    replace q := q.trans (pf_call_eq hY)
    have k := rt_voice hn hY
    have y16 : Y 90 16 = n := (k.1 90 16 (by decide)).trans hn
    rw [y16] at q
    obtain ⟨B2, hB2, q2⟩ := pf_loop q
    have hB3 : ∀ (x : Int) (U : pm_M), B2 (x, U) = if n ≤ x then .inr (Sum.inr ((0 : Int), U)) else .inl (x + 1, pm_up U 90 51 (U 90 51 + U 112 x.toNat)) := fun x U => congrFun hB2 (x, U)
    obtain ⟨U, u1, u2⟩ := rw_fin (d := Sum.inr ((0 : Int), W)) (fin := fun U => Sum.inr ((0 : Int), U)) k hn0 hB3
    obtain ⟨-, rfl⟩ := Prod.mk.inj (e.trans (pf_val_inr (q2.trans u1)))
    exact u2
set_option maxHeartbeats 4000000 in
theorem rw_w1 {a n z : Int} {W X : pm_M} (hl : a = 1) (hn : W 90 16 = n) (hn0 : 1 ≤ n) (hZ : F_X12_weighs a W = (z, X)) : wy n (fun j => W 97 (3 * j + 2) * W 111 j) W X := by
  have hn1 := hn0
  replace hn0 : 0 ≤ n := by omega
  have e := hZ.symm.trans (F_X12_weighs_eq a W)
  simp only [pf_let] at e
  obtain ⟨B, hB, e⟩ := pf_loop e
  have q := congrFun hB (a, 0, W)
  dsimp only at q
  by_cases c : W 90 21 ≤ 0
  · rw [if_pos c, if_neg (show ¬ (a < 0 ∨ 6 < a) by omega), if_neg (show ¬ a = 0 by omega), if_pos hl] at q
    obtain ⟨y, Y, hY⟩ : ∃ y Y, F_X12_takesFace W = (y, Y) := ⟨_, _, rfl⟩
    replace q := q.trans (pf_call_eq hY)
    have k := rt_face hn hY
    have y16 : Y 90 16 = n := (k.1 90 16 (by decide)).trans hn
    rw [y16] at q
    obtain ⟨B2, hB2, q2⟩ := pf_loop q
    have hB3 : ∀ (x : Int) (U : pm_M), B2 (x, U) = if n ≤ x then .inr (Sum.inr ((0 : Int), U)) else .inl (x + 1, pm_up U 90 51 (U 90 51 + U 112 x.toNat)) := fun x U => congrFun hB2 (x, U)
    obtain ⟨U, u1, u2⟩ := rw_fin (d := Sum.inr ((0 : Int), W)) (fin := fun U => Sum.inr ((0 : Int), U)) k hn0 hB3
    obtain ⟨-, rfl⟩ := Prod.mk.inj (e.trans (pf_val_inr (q2.trans u1)))
    exact u2
  · rw [if_neg c, if_pos (show ¬ a = 5 by omega), if_neg (show ¬ (a < 0 ∨ 6 < a) by omega), if_neg (show ¬ a = 0 by omega), if_pos hl] at q
    obtain ⟨y, Y, hY⟩ : ∃ y Y, F_X12_takesFace W = (y, Y) := ⟨_, _, rfl⟩
    replace q := q.trans (pf_call_eq hY)
    have k := rt_face hn hY
    have y16 : Y 90 16 = n := (k.1 90 16 (by decide)).trans hn
    rw [y16] at q
    obtain ⟨B2, hB2, q2⟩ := pf_loop q
    have hB3 : ∀ (x : Int) (U : pm_M), B2 (x, U) = if n ≤ x then .inr (Sum.inr ((0 : Int), U)) else .inl (x + 1, pm_up U 90 51 (U 90 51 + U 112 x.toNat)) := fun x U => congrFun hB2 (x, U)
    obtain ⟨U, u1, u2⟩ := rw_fin (d := Sum.inr ((0 : Int), W)) (fin := fun U => Sum.inr ((0 : Int), U)) k hn0 hB3
    obtain ⟨-, rfl⟩ := Prod.mk.inj (e.trans (pf_val_inr (q2.trans u1)))
    exact u2
set_option maxHeartbeats 4000000 in
theorem rw_w2 {a n z A : Int} {W X : pm_M} (hl : a = 2) (hn : W 90 16 = n) (hn0 : 1 ≤ n) (hn9 : n ≤ 9) (hA : W 90 44 = A) (hb : ∀ j : Nat, (j : Int) < n → 0 ≤ W 97 (3 * j + 2) * W 111 j ∧ W 97 (3 * j + 2) * W 111 j ≤ 1000000) (ha : ∀ j : Nat, (j : Int) < n → 0 ≤ W 110 j ∧ W 110 j ≤ 1539) (hZ : F_X12_weighs a W = (z, X)) : (wk_M (W 110) n.toNat * wk_S (fun j => W 97 (3 * j + 2) * W 111 j) n.toNat < wk_M (fun j => W 97 (3 * j + 2) * W 111 j) n.toNat * A → wy n (fun j => W 97 (3 * j + 2) * W 111 j) W X) ∧ (wk_M (fun j => W 97 (3 * j + 2) * W 111 j) n.toNat * A ≤ wk_M (W 110) n.toNat * wk_S (fun j => W 97 (3 * j + 2) * W 111 j) n.toNat → wy n (W 110) W X) := by
  have hn1 := hn0
  replace hn0 : 0 ≤ n := by omega
  have e := hZ.symm.trans (F_X12_weighs_eq a W)
  simp only [pf_let] at e
  obtain ⟨B, hB, e⟩ := pf_loop e
  have q := congrFun hB (a, 0, W)
  dsimp only at q
  by_cases c : W 90 21 ≤ 0
  · rw [if_pos c, if_neg (show ¬ (a < 0 ∨ 6 < a) by omega), if_neg (show ¬ a = 0 by omega), if_neg (show ¬ a = 1 by omega), if_pos hl] at q
    obtain ⟨y, Y, hY⟩ : ∃ y Y, F_X12_takesSurer W = (y, Y) := ⟨_, _, rfl⟩
    replace q := q.trans (pf_call_eq hY)
    have k := rt_surer hn hn0 hn9 hA hb ha hY
    have y16 : Y 90 16 = n := by
      by_cases c0 : wk_M (W 110) n.toNat * wk_S (fun j => W 97 (3 * j + 2) * W 111 j) n.toNat < wk_M (fun j => W 97 (3 * j + 2) * W 111 j) n.toNat * A
      · exact ((k.1 c0).1 90 16 (by decide)).trans hn
      · exact ((k.2 (by omega)).1 90 16 (by decide)).trans hn
    rw [y16] at q
    obtain ⟨B2, hB2, q2⟩ := pf_loop q
    have hB3 : ∀ (x : Int) (U : pm_M), B2 (x, U) = if n ≤ x then .inr (Sum.inr ((0 : Int), U)) else .inl (x + 1, pm_up U 90 51 (U 90 51 + U 112 x.toNat)) := fun x U => congrFun hB2 (x, U)
    by_cases c0 : wk_M (W 110) n.toNat * wk_S (fun j => W 97 (3 * j + 2) * W 111 j) n.toNat < wk_M (fun j => W 97 (3 * j + 2) * W 111 j) n.toNat * A
    · obtain ⟨U, u1, u2⟩ := rw_fin (d := Sum.inr ((0 : Int), W)) (fin := fun U => Sum.inr ((0 : Int), U)) (k.1 c0) hn0 hB3
      obtain ⟨-, rfl⟩ := Prod.mk.inj (e.trans (pf_val_inr (q2.trans u1)))
      exact ⟨fun _ => u2, fun r => absurd r (by omega)⟩
    · obtain ⟨U, u1, u2⟩ := rw_fin (d := Sum.inr ((0 : Int), W)) (fin := fun U => Sum.inr ((0 : Int), U)) (k.2 (by omega)) hn0 hB3
      obtain ⟨-, rfl⟩ := Prod.mk.inj (e.trans (pf_val_inr (q2.trans u1)))
      exact ⟨fun r => absurd r c0, fun _ => u2⟩
  · rw [if_neg c, if_pos (show ¬ a = 5 by omega), if_neg (show ¬ (a < 0 ∨ 6 < a) by omega), if_neg (show ¬ a = 0 by omega), if_neg (show ¬ a = 1 by omega), if_pos hl] at q
    obtain ⟨y, Y, hY⟩ : ∃ y Y, F_X12_takesSurer W = (y, Y) := ⟨_, _, rfl⟩
    replace q := q.trans (pf_call_eq hY)
    have k := rt_surer hn hn0 hn9 hA hb ha hY
    have y16 : Y 90 16 = n := by
      by_cases c0 : wk_M (W 110) n.toNat * wk_S (fun j => W 97 (3 * j + 2) * W 111 j) n.toNat < wk_M (fun j => W 97 (3 * j + 2) * W 111 j) n.toNat * A
      · exact ((k.1 c0).1 90 16 (by decide)).trans hn
      · exact ((k.2 (by omega)).1 90 16 (by decide)).trans hn
    rw [y16] at q
    obtain ⟨B2, hB2, q2⟩ := pf_loop q
    have hB3 : ∀ (x : Int) (U : pm_M), B2 (x, U) = if n ≤ x then .inr (Sum.inr ((0 : Int), U)) else .inl (x + 1, pm_up U 90 51 (U 90 51 + U 112 x.toNat)) := fun x U => congrFun hB2 (x, U)
    by_cases c0 : wk_M (W 110) n.toNat * wk_S (fun j => W 97 (3 * j + 2) * W 111 j) n.toNat < wk_M (fun j => W 97 (3 * j + 2) * W 111 j) n.toNat * A
    · obtain ⟨U, u1, u2⟩ := rw_fin (d := Sum.inr ((0 : Int), W)) (fin := fun U => Sum.inr ((0 : Int), U)) (k.1 c0) hn0 hB3
      obtain ⟨-, rfl⟩ := Prod.mk.inj (e.trans (pf_val_inr (q2.trans u1)))
      exact ⟨fun _ => u2, fun r => absurd r (by omega)⟩
    · obtain ⟨U, u1, u2⟩ := rw_fin (d := Sum.inr ((0 : Int), W)) (fin := fun U => Sum.inr ((0 : Int), U)) (k.2 (by omega)) hn0 hB3
      obtain ⟨-, rfl⟩ := Prod.mk.inj (e.trans (pf_val_inr (q2.trans u1)))
      exact ⟨fun r => absurd r c0, fun _ => u2⟩
set_option maxHeartbeats 4000000 in
theorem rw_w4 {a n z t F : Int} {W X : pm_M} (hl : a = 4) (hn : W 90 16 = n) (hn0 : 1 ≤ n) (ht : W 90 47 = t) (hF : W 90 45 = F) (hZ : F_X12_weighs a W = (z, X)) : (wk_S (fun j => ((t * n) * W 110 j) * W 111 j + ((16 - t) * F) * W 110 j) n.toNat ≠ 0 → wy n (fun j => ((t * n) * W 110 j) * W 111 j + ((16 - t) * F) * W 110 j) W X) ∧ (wk_S (fun j => ((t * n) * W 110 j) * W 111 j + ((16 - t) * F) * W 110 j) n.toNat = 0 → wy n (W 110) W X) := by
  have hn1 := hn0
  replace hn0 : 0 ≤ n := by omega
  have e := hZ.symm.trans (F_X12_weighs_eq a W)
  simp only [pf_let] at e
  obtain ⟨B, hB, e⟩ := pf_loop e
  have q := congrFun hB (a, 0, W)
  dsimp only at q
  by_cases c : W 90 21 ≤ 0
  · rw [if_pos c, if_neg (show ¬ (a < 0 ∨ 6 < a) by omega), if_neg (show ¬ a = 0 by omega), if_neg (show ¬ a = 1 by omega), if_neg (show ¬ a = 2 by omega), if_neg (show ¬ a = 3 by omega), if_pos hl] at q
    obtain ⟨y, Y, hY⟩ : ∃ y Y, F_X12_takesOdds W = (y, Y) := ⟨_, _, rfl⟩
    replace q := q.trans (pf_call_eq hY)
    have k := rt_odds hn hn0 ht hF hY
    have y16 : Y 90 16 = n := by
      by_cases c0 : wk_S (fun j => ((t * n) * W 110 j) * W 111 j + ((16 - t) * F) * W 110 j) n.toNat = 0
      · exact ((k.2 c0).1 90 16 (by decide)).trans hn
      · exact ((k.1 c0).1 90 16 (by decide)).trans hn
    rw [y16] at q
    obtain ⟨B2, hB2, q2⟩ := pf_loop q
    have hB3 : ∀ (x : Int) (U : pm_M), B2 (x, U) = if n ≤ x then .inr (Sum.inr ((0 : Int), U)) else .inl (x + 1, pm_up U 90 51 (U 90 51 + U 112 x.toNat)) := fun x U => congrFun hB2 (x, U)
    by_cases c0 : wk_S (fun j => ((t * n) * W 110 j) * W 111 j + ((16 - t) * F) * W 110 j) n.toNat = 0
    · obtain ⟨U, u1, u2⟩ := rw_fin (d := Sum.inr ((0 : Int), W)) (fin := fun U => Sum.inr ((0 : Int), U)) (k.2 c0) hn0 hB3
      obtain ⟨-, rfl⟩ := Prod.mk.inj (e.trans (pf_val_inr (q2.trans u1)))
      exact ⟨fun r => absurd c0 r, fun _ => u2⟩
    · obtain ⟨U, u1, u2⟩ := rw_fin (d := Sum.inr ((0 : Int), W)) (fin := fun U => Sum.inr ((0 : Int), U)) (k.1 c0) hn0 hB3
      obtain ⟨-, rfl⟩ := Prod.mk.inj (e.trans (pf_val_inr (q2.trans u1)))
      exact ⟨fun _ => u2, fun r => absurd r c0⟩
  · rw [if_neg c, if_pos (show ¬ a = 5 by omega), if_neg (show ¬ (a < 0 ∨ 6 < a) by omega), if_neg (show ¬ a = 0 by omega), if_neg (show ¬ a = 1 by omega), if_neg (show ¬ a = 2 by omega), if_neg (show ¬ a = 3 by omega), if_pos hl] at q
    obtain ⟨y, Y, hY⟩ : ∃ y Y, F_X12_takesOdds W = (y, Y) := ⟨_, _, rfl⟩
    replace q := q.trans (pf_call_eq hY)
    have k := rt_odds hn hn0 ht hF hY
    have y16 : Y 90 16 = n := by
      by_cases c0 : wk_S (fun j => ((t * n) * W 110 j) * W 111 j + ((16 - t) * F) * W 110 j) n.toNat = 0
      · exact ((k.2 c0).1 90 16 (by decide)).trans hn
      · exact ((k.1 c0).1 90 16 (by decide)).trans hn
    rw [y16] at q
    obtain ⟨B2, hB2, q2⟩ := pf_loop q
    have hB3 : ∀ (x : Int) (U : pm_M), B2 (x, U) = if n ≤ x then .inr (Sum.inr ((0 : Int), U)) else .inl (x + 1, pm_up U 90 51 (U 90 51 + U 112 x.toNat)) := fun x U => congrFun hB2 (x, U)
    by_cases c0 : wk_S (fun j => ((t * n) * W 110 j) * W 111 j + ((16 - t) * F) * W 110 j) n.toNat = 0
    · obtain ⟨U, u1, u2⟩ := rw_fin (d := Sum.inr ((0 : Int), W)) (fin := fun U => Sum.inr ((0 : Int), U)) (k.2 c0) hn0 hB3
      obtain ⟨-, rfl⟩ := Prod.mk.inj (e.trans (pf_val_inr (q2.trans u1)))
      exact ⟨fun r => absurd c0 r, fun _ => u2⟩
    · obtain ⟨U, u1, u2⟩ := rw_fin (d := Sum.inr ((0 : Int), W)) (fin := fun U => Sum.inr ((0 : Int), U)) (k.1 c0) hn0 hB3
      obtain ⟨-, rfl⟩ := Prod.mk.inj (e.trans (pf_val_inr (q2.trans u1)))
      exact ⟨fun _ => u2, fun r => absurd r c0⟩
set_option maxHeartbeats 4000000 in
theorem rw_w6 {a n z v f sv sf pl : Int} {W X : pm_M} (hl : a = 6) (hn : W 90 16 = n) (hn0 : 1 ≤ n) (hv : W 90 48 = v) (hf : W 90 49 = f) (hsv : W 90 42 = sv) (hsf : W 90 43 = sf) (hpl : (W 97 (3 * v).toNat * sf + W 97 (3 * f).toNat * sv) / (sv + sf) = pl) (bD : ∀ j : Nat, (j : Int) < n → 0 ≤ wk_a (W 97 (3 * j) - pl) + wk_a (W 97 (3 * j + 1) - W 97 ((3 * v) + 1).toNat) ∧ wk_a (W 97 (3 * j) - pl) + wk_a (W 97 (3 * j + 1) - W 97 ((3 * v) + 1).toNat) < 1000) (hZ : F_X12_weighs a W = (z, X)) : wy n (fun j => if (j : Int) = ((wk_ml (fun j => -(wk_a (W 97 (3 * j) - pl) + wk_a (W 97 (3 * j + 1) - W 97 ((3 * v) + 1).toNat))) (n - 1).toNat : Nat) : Int) then 1 else 0) W X := by
  have hn1 := hn0
  replace hn0 : 0 ≤ n := by omega
  have e := hZ.symm.trans (F_X12_weighs_eq a W)
  simp only [pf_let] at e
  obtain ⟨B, hB, e⟩ := pf_loop e
  have q := congrFun hB (a, 0, W)
  dsimp only at q
  by_cases c : W 90 21 ≤ 0
  · rw [if_pos c, if_neg (show ¬ (a < 0 ∨ 6 < a) by omega), if_neg (show ¬ a = 0 by omega), if_neg (show ¬ a = 1 by omega), if_neg (show ¬ a = 2 by omega), if_neg (show ¬ a = 3 by omega), if_neg (show ¬ a = 4 by omega), if_neg (show ¬ a = 5 by omega), if_pos hl] at q
    obtain ⟨y, Y, hY⟩ : ∃ y Y, F_X12_takesBetween W = (y, Y) := ⟨_, _, rfl⟩
    replace q := q.trans (pf_call_eq hY)
    have k := rt_between hn (by omega) hv hf hsv hsf hpl bD hY
    have y16 : Y 90 16 = n := (k.1 90 16 (by decide)).trans hn
    rw [y16] at q
    obtain ⟨B2, hB2, q2⟩ := pf_loop q
    have hB3 : ∀ (x : Int) (U : pm_M), B2 (x, U) = if n ≤ x then .inr (Sum.inr ((0 : Int), U)) else .inl (x + 1, pm_up U 90 51 (U 90 51 + U 112 x.toNat)) := fun x U => congrFun hB2 (x, U)
    obtain ⟨U, u1, u2⟩ := rw_fin (d := Sum.inr ((0 : Int), W)) (fin := fun U => Sum.inr ((0 : Int), U)) k hn0 hB3
    obtain ⟨-, rfl⟩ := Prod.mk.inj (e.trans (pf_val_inr (q2.trans u1)))
    exact u2
  · rw [if_neg c, if_pos (show ¬ a = 5 by omega), if_neg (show ¬ (a < 0 ∨ 6 < a) by omega), if_neg (show ¬ a = 0 by omega), if_neg (show ¬ a = 1 by omega), if_neg (show ¬ a = 2 by omega), if_neg (show ¬ a = 3 by omega), if_neg (show ¬ a = 4 by omega), if_neg (show ¬ a = 5 by omega), if_pos hl] at q
    obtain ⟨y, Y, hY⟩ : ∃ y Y, F_X12_takesBetween W = (y, Y) := ⟨_, _, rfl⟩
    replace q := q.trans (pf_call_eq hY)
    have k := rt_between hn (by omega) hv hf hsv hsf hpl bD hY
    have y16 : Y 90 16 = n := (k.1 90 16 (by decide)).trans hn
    rw [y16] at q
    obtain ⟨B2, hB2, q2⟩ := pf_loop q
    have hB3 : ∀ (x : Int) (U : pm_M), B2 (x, U) = if n ≤ x then .inr (Sum.inr ((0 : Int), U)) else .inl (x + 1, pm_up U 90 51 (U 90 51 + U 112 x.toNat)) := fun x U => congrFun hB2 (x, U)
    obtain ⟨U, u1, u2⟩ := rw_fin (d := Sum.inr ((0 : Int), W)) (fin := fun U => Sum.inr ((0 : Int), U)) k hn0 hB3
    obtain ⟨-, rfl⟩ := Prod.mk.inj (e.trans (pf_val_inr (q2.trans u1)))
    exact u2
theorem rw_one {O : Type} {d : O} {n : Int} {W : pm_M} {fin : pm_M → O} {B : Int × pm_M → (Int × pm_M) ⊕ O} (hn : W 90 16 = n) (hn0 : 0 ≤ n) (h0 : ∀ (x : Int) (U : pm_M), ¬ U 90 16 ≤ x → B (x, U) = .inl (x + 1, pm_up U 112 x.toNat (U 110 x.toNat * U 111 x.toNat))) (h1 : ∀ (x : Int) (U : pm_M), U 90 16 ≤ x → U 90 16 = n → ∃ X, B (x, U) = .inr (fin X) ∧ ((U 90 46 ≠ 0 → ∀ g, wt n g W U → wy n g W X) ∧ (U 90 46 = 0 → (∀ k i, k ≠ 112 → U k i = W k i) → wy n (W 110) W X))) : ∃ X, pf_val d B (0, W) = fin X ∧ (W 90 46 ≠ 0 → wy n (fun j => W 110 j * W 111 j) W X) ∧ (W 90 46 = 0 → wy n (W 110) W X) := by
  refine pf_val_ind2 (d := d) (b := B) (fun s => 0 ≤ s.1 ∧ (∀ k i, k ≠ 112 → s.2 k i = W k i) ∧ ∀ j : Nat, (j : Int) < s.1 → s.2 112 j = W 110 j * W 111 j) (fun o => ∃ X, o = fin X ∧ (W 90 46 ≠ 0 → wy n (fun j => W 110 j * W 111 j) W X) ∧ (W 90 46 = 0 → wy n (W 110) W X)) (fun s => (n - s.1).toNat) ?_ (0, W) ⟨Int.le_refl _, fun _ _ _ => rfl, fun j hj => absurd hj (by dsimp only; omega)⟩
  rintro ⟨x, U⟩ ⟨p0, p1, p2⟩
  dsimp only at p0 p1 p2
  have u16 : U 90 16 = n := (p1 90 16 (by decide)).trans hn
  have u46 : U 90 46 = W 90 46 := p1 90 46 (by decide)
  by_cases c : n ≤ x
  · obtain ⟨X, x1, x2, x3⟩ := h1 x U (by omega) u16
    rw [u46] at x2 x3
    exact Or.inr ⟨_, x1, X, rfl, fun r => x2 r _ ⟨p1, fun j hj => p2 j (by omega)⟩, fun r => x3 r p1⟩
  · have q := h0 x U (by omega)
    rw [p1 110 x.toNat (by decide), p1 111 x.toNat (by decide)] at q
    refine Or.inl ⟨_, q, ⟨by dsimp only; omega, fun k i hk => ?_, fun j hj => ?_⟩, by dsimp only; omega⟩
    · dsimp only
      rw [pm_up_c hk]
      exact p1 k i hk
    · dsimp only at hj ⊢
      rw [up_at]
      by_cases ej : j = x.toNat
      · rw [if_pos ej, ej]
      · rw [if_neg ej]
        exact p2 j (by omega)
set_option maxHeartbeats 4000000 in
theorem rw_w3 {a n z : Int} {W X : pm_M} (hl : a = 3) (hn : W 90 16 = n) (hn0 : 0 ≤ n) (hZ : F_X12_weighs a W = (z, X)) : (W 90 46 ≠ 0 → wy n (fun j => W 110 j * W 111 j) W X) ∧ (W 90 46 = 0 → wy n (W 110) W X) := by
  have e := hZ.symm.trans (F_X12_weighs_eq a W)
  simp only [pf_let] at e
  obtain ⟨B, hB, e⟩ := pf_loop e
  have q := congrFun hB (a, 0, W)
  dsimp only at q
  have fin : ∀ (d2 : (Int × Int × pm_M) ⊕ (Int × pm_M)) (B1 : Int × pm_M → (Int × pm_M) ⊕ ((Int × Int × pm_M) ⊕ (Int × pm_M))), B (a, 0, W) = pf_val d2 B1 (0, W) → (∀ (x : Int) (U : pm_M), ¬ U 90 16 ≤ x → B1 (x, U) = .inl (x + 1, pm_up U 112 x.toNat (U 110 x.toNat * U 111 x.toNat))) → (∀ (x : Int) (U : pm_M), U 90 16 ≤ x → U 90 16 = n → ∃ X, B1 (x, U) = .inr (Sum.inr ((0 : Int), X)) ∧ ((U 90 46 ≠ 0 → ∀ g, wt n g W U → wy n g W X) ∧ (U 90 46 = 0 → (∀ k i, k ≠ 112 → U k i = W k i) → wy n (W 110) W X))) → (W 90 46 ≠ 0 → wy n (fun j => W 110 j * W 111 j) W X) ∧ (W 90 46 = 0 → wy n (W 110) W X) := by
    intro d2 B1 q h0 h1
    obtain ⟨Y, y1, y2⟩ := rw_one (d := d2) (fin := fun U => Sum.inr ((0 : Int), U)) hn hn0 h0 h1
    obtain ⟨-, rfl⟩ := Prod.mk.inj (e.trans (pf_val_inr (q.trans y1)))
    exact y2
  by_cases c : W 90 21 ≤ 0
  · rw [if_pos c, if_neg (show ¬ (a < 0 ∨ 6 < a) by omega), if_neg (show ¬ a = 0 by omega), if_neg (show ¬ a = 1 by omega), if_neg (show ¬ a = 2 by omega), if_pos hl] at q
    obtain ⟨B1, hB1, q⟩ := pf_loop q
    refine fin _ B1 q (fun x U hx => ?_) (fun x U hx u16 => ?_)
    · have r := congrFun hB1 (x, U)
      dsimp only at r
      rw [if_neg hx] at r
      exact r
    · have r := congrFun hB1 (x, U)
      dsimp only at r
      rw [if_pos hx] at r
      simp only [u16] at r
      by_cases c2 : U 90 46 = 0
      · rw [if_neg (show ¬ ¬ pm_cmp (U 90 46) 0 = 0 from fun s => s (pm_cmp_eq0.mpr c2))] at r
        obtain ⟨y, Y, hY⟩ : ∃ y Y, F_X12_takesVoice U = (y, Y) := ⟨_, _, rfl⟩
        replace r := r.trans (pf_call_eq hY)
        have k := rt_voice u16 hY
        obtain ⟨B2, hB2, r2⟩ := pf_loop r
        have hB3 : ∀ (x : Int) (U : pm_M), B2 (x, U) = if n ≤ x then .inr (Sum.inr (Sum.inr ((0 : Int), U))) else .inl (x + 1, pm_up U 90 51 (U 90 51 + U 112 x.toNat)) := fun x U => congrFun hB2 (x, U)
        obtain ⟨X, u1, u2⟩ := rw_fin (d := Sum.inr (Sum.inr ((0 : Int), W))) (fin := fun U => Sum.inr (Sum.inr ((0 : Int), U))) k hn0 hB3
        refine ⟨X, r2.trans u1, fun s => absurd c2 s, fun _ p => ?_⟩
        have e110 : U 110 = W 110 := funext fun i => p 110 i (by decide)
        rw [e110] at u2
        exact ⟨fun k i q1 q2 => (u2.1 k i q1 q2).trans (p k i q1), u2.2⟩
      · rw [if_pos (show ¬ pm_cmp (U 90 46) 0 = 0 from fun s => c2 (pm_cmp_eq0.mp s))] at r
        obtain ⟨B2, hB2, r2⟩ := pf_loop r
        have hB3 : ∀ (x : Int) (U : pm_M), B2 (x, U) = if n ≤ x then .inr (Sum.inr (Sum.inr ((0 : Int), U))) else .inl (x + 1, pm_up U 90 51 (U 90 51 + U 112 x.toNat)) := fun x U => congrFun hB2 (x, U)
        obtain ⟨X, u1, u2⟩ := rw_fin (d := Sum.inr (Sum.inr ((0 : Int), W))) (fin := fun U => Sum.inr (Sum.inr ((0 : Int), U))) (W := U) (Y := U) (g := U 112) ⟨fun _ _ _ => rfl, fun _ _ => rfl⟩ hn0 hB3
        refine ⟨X, r2.trans u1, fun _ g hg => ?_, fun s => absurd s c2⟩
        exact ⟨fun k i q1 q2 => (u2.1 k i q1 q2).trans (hg.1 k i q1), fun j hj => (u2.2.1 j hj).trans (hg.2 j hj), u2.2.2.trans (wk_S_eq _ fun j hj => hg.2 j (by omega))⟩
  · rw [if_neg c, if_pos (show ¬ a = 5 by omega), if_neg (show ¬ (a < 0 ∨ 6 < a) by omega), if_neg (show ¬ a = 0 by omega), if_neg (show ¬ a = 1 by omega), if_neg (show ¬ a = 2 by omega), if_pos hl] at q
    obtain ⟨B1, hB1, q⟩ := pf_loop q
    refine fin _ B1 q (fun x U hx => ?_) (fun x U hx u16 => ?_)
    · have r := congrFun hB1 (x, U)
      dsimp only at r
      rw [if_neg hx] at r
      exact r
    · have r := congrFun hB1 (x, U)
      dsimp only at r
      rw [if_pos hx] at r
      simp only [u16] at r
      by_cases c2 : U 90 46 = 0
      · rw [if_neg (show ¬ ¬ pm_cmp (U 90 46) 0 = 0 from fun s => s (pm_cmp_eq0.mpr c2))] at r
        obtain ⟨y, Y, hY⟩ : ∃ y Y, F_X12_takesVoice U = (y, Y) := ⟨_, _, rfl⟩
        replace r := r.trans (pf_call_eq hY)
        have k := rt_voice u16 hY
        obtain ⟨B2, hB2, r2⟩ := pf_loop r
        have hB3 : ∀ (x : Int) (U : pm_M), B2 (x, U) = if n ≤ x then .inr (Sum.inr (Sum.inr ((0 : Int), U))) else .inl (x + 1, pm_up U 90 51 (U 90 51 + U 112 x.toNat)) := fun x U => congrFun hB2 (x, U)
        obtain ⟨X, u1, u2⟩ := rw_fin (d := Sum.inr (Sum.inr ((0 : Int), W))) (fin := fun U => Sum.inr (Sum.inr ((0 : Int), U))) k hn0 hB3
        refine ⟨X, r2.trans u1, fun s => absurd c2 s, fun _ p => ?_⟩
        have e110 : U 110 = W 110 := funext fun i => p 110 i (by decide)
        rw [e110] at u2
        exact ⟨fun k i q1 q2 => (u2.1 k i q1 q2).trans (p k i q1), u2.2⟩
      · rw [if_pos (show ¬ pm_cmp (U 90 46) 0 = 0 from fun s => c2 (pm_cmp_eq0.mp s))] at r
        obtain ⟨B2, hB2, r2⟩ := pf_loop r
        have hB3 : ∀ (x : Int) (U : pm_M), B2 (x, U) = if n ≤ x then .inr (Sum.inr (Sum.inr ((0 : Int), U))) else .inl (x + 1, pm_up U 90 51 (U 90 51 + U 112 x.toNat)) := fun x U => congrFun hB2 (x, U)
        obtain ⟨X, u1, u2⟩ := rw_fin (d := Sum.inr (Sum.inr ((0 : Int), W))) (fin := fun U => Sum.inr (Sum.inr ((0 : Int), U))) (W := U) (Y := U) (g := U 112) ⟨fun _ _ _ => rfl, fun _ _ => rfl⟩ hn0 hB3
        refine ⟨X, r2.trans u1, fun _ g hg => ?_, fun s => absurd s c2⟩
        exact ⟨fun k i q1 q2 => (u2.1 k i q1 q2).trans (hg.1 k i q1), fun j hj => (u2.2.1 j hj).trans (hg.2 j hj), u2.2.2.trans (wk_S_eq _ fun j hj => hg.2 j (by omega))⟩
set_option maxHeartbeats 8000000 in
theorem rw_w5 {a n z t F v f : Int} {W X : pm_M} (hl : a = 5) (hn : W 90 16 = n) (hn0 : 0 ≤ n) (ht : W 90 47 = t) (hF : W 90 45 = F) (hv : W 90 48 = v) (hf : W 90 49 = f) (hZ : F_X12_weighs a W = (z, X)) : ((∀ k : Nat, (k : Int) < W 90 21 → ¬ (W 99 (3 * k) = v ∧ W 99 (3 * k + 1) = f)) ∧ (wk_S (fun j => ((t * n) * W 110 j) * W 111 j + ((16 - t) * F) * W 110 j) n.toNat ≠ 0 → wy n (fun j => ((t * n) * W 110 j) * W 111 j + ((16 - t) * F) * W 110 j) W X) ∧ (wk_S (fun j => ((t * n) * W 110 j) * W 111 j + ((16 - t) * F) * W 110 j) n.toNat = 0 → wy n (W 110) W X)) ∨ ∃ k : Nat, (k : Int) < W 90 21 ∧ W 99 (3 * k) = v ∧ W 99 (3 * k + 1) = f ∧ (∀ i : Nat, i < k → ¬ (W 99 (3 * i) = v ∧ W 99 (3 * i + 1) = f)) ∧ wy n (fun j => if (j : Int) = W 99 (3 * k + 2) then 1 else 0) W X := by
  have e := hZ.symm.trans (F_X12_weighs_eq a W)
  simp only [pf_let] at e
  obtain ⟨B, hB, e⟩ := pf_loop e
  obtain ⟨G, hG⟩ : ∃ G : Nat → Int, G = (fun j => ((t * n) * W 110 j) * W 111 j + ((16 - t) * F) * W 110 j) := ⟨_, rfl⟩
  rw [← hG]
  let Q : pm_M → Prop := fun X => ((∀ k : Nat, (k : Int) < W 90 21 → ¬ (W 99 (3 * k) = v ∧ W 99 (3 * k + 1) = f)) ∧ (wk_S G n.toNat ≠ 0 → wy n G W X) ∧ (wk_S G n.toNat = 0 → wy n (W 110) W X)) ∨ ∃ k : Nat, (k : Int) < W 90 21 ∧ W 99 (3 * k) = v ∧ W 99 (3 * k + 1) = f ∧ (∀ i : Nat, i < k → ¬ (W 99 (3 * i) = v ∧ W 99 (3 * i + 1) = f)) ∧ wy n (fun j => if (j : Int) = W 99 (3 * k + 2) then 1 else 0) W X
  have key := pf_val_ind2 (d := ((0 : Int), W)) (b := B) (fun s => 0 ≤ s.2.1 ∧ ((s.1 = 5 ∧ s.2.2 = W ∧ ∀ i : Nat, (i : Int) < s.2.1 → ¬ (W 99 (3 * i) = v ∧ W 99 (3 * i + 1) = f)) ∨ (s.1 = -1 ∧ ∃ k : Nat, (k : Int) < W 90 21 ∧ W 99 (3 * k) = v ∧ W 99 (3 * k + 1) = f ∧ (∀ i : Nat, i < k → ¬ (W 99 (3 * i) = v ∧ W 99 (3 * i + 1) = f)) ∧ wt n (fun j => if (j : Int) = W 99 (3 * k + 2) then 1 else 0) W s.2.2))) (fun o => Q o.2) (fun s => (W 90 21 - s.2.1).toNat) ?_ (a, 0, W) ⟨Int.le_refl _, Or.inl ⟨hl, rfl, fun i hi => absurd hi (by dsimp only; omega)⟩⟩
  · rw [← e] at key
    exact key
  · rintro ⟨a, x, U⟩ ⟨p0, p1⟩
    dsimp only at p0 p1
    have q := congrFun hB (a, x, U)
    dsimp only at q
    rcases p1 with ⟨hl, hU, p1⟩ | ⟨hl, k, k1, k2, k3, k4, k5⟩
    · rw [hU] at q ⊢
      by_cases c : W 90 21 ≤ x
      · rw [if_pos c, if_neg (show ¬ (a < 0 ∨ 6 < a) by omega), if_neg (show ¬ a = 0 by omega), if_neg (show ¬ a = 1 by omega), if_neg (show ¬ a = 2 by omega), if_neg (show ¬ a = 3 by omega), if_neg (show ¬ a = 4 by omega), if_pos hl] at q
        obtain ⟨y, Y, hY⟩ : ∃ y Y, F_X12_takesOdds W = (y, Y) := ⟨_, _, rfl⟩
        replace q := q.trans (pf_call_eq hY)
        have k := rt_odds hn hn0 ht hF hY
        rw [← hG] at k
        have y16 : Y 90 16 = n := by
          by_cases c0 : wk_S G n.toNat = 0
          · exact ((k.2 c0).1 90 16 (by decide)).trans hn
          · exact ((k.1 c0).1 90 16 (by decide)).trans hn
        rw [y16] at q
        obtain ⟨B2, hB2, q2⟩ := pf_loop q
        have hB3 : ∀ (x : Int) (U : pm_M), B2 (x, U) = if n ≤ x then .inr (Sum.inr ((0 : Int), U)) else .inl (x + 1, pm_up U 90 51 (U 90 51 + U 112 x.toNat)) := fun x U => congrFun hB2 (x, U)
        have no : ∀ k : Nat, (k : Int) < W 90 21 → ¬ (W 99 (3 * k) = v ∧ W 99 (3 * k + 1) = f) := fun k hk => p1 k (by omega)
        by_cases c0 : wk_S G n.toNat = 0
        · obtain ⟨Z, u1, u2⟩ := rw_fin (d := Sum.inr ((0 : Int), W)) (fin := fun U => Sum.inr ((0 : Int), U)) (k.2 c0) hn0 hB3
          exact Or.inr ⟨_, q2.trans u1, Or.inl ⟨no, fun r => absurd c0 r, fun _ => u2⟩⟩
        · obtain ⟨Z, u1, u2⟩ := rw_fin (d := Sum.inr ((0 : Int), W)) (fin := fun U => Sum.inr ((0 : Int), U)) (k.1 c0) hn0 hB3
          exact Or.inr ⟨_, q2.trans u1, Or.inl ⟨no, fun _ => u2, fun r => absurd r c0⟩⟩
      · have i0 : (3 * x).toNat = 3 * x.toNat := by omega
        have i1 : ((3 * x) + 1).toNat = 3 * x.toNat + 1 := by omega
        have i2 : ((3 * x) + 2).toNat = 3 * x.toNat + 2 := by omega
        rw [if_neg c, if_neg (show ¬ ¬ a = 5 from fun r => r hl), i0, i1, i2] at q
        simp only [hv, hf, hn] at q
        have goon : ¬ (W 99 (3 * x.toNat) = v ∧ W 99 (3 * x.toNat + 1) = f) → ∀ i : Nat, (i : Int) < x + 1 → ¬ (W 99 (3 * i) = v ∧ W 99 (3 * i + 1) = f) := fun h i hi => by
          by_cases ei : i = x.toNat
          · rw [ei]
            exact h
          · exact p1 i (by omega)
        by_cases c1 : W 99 (3 * x.toNat) = v
        · rw [if_neg (fun r => r c1)] at q
          by_cases c2 : W 99 (3 * x.toNat + 1) = f
          · rw [if_pos c2] at q
            obtain ⟨B2, hB2, q2⟩ := pf_loop q
            obtain ⟨Y, e1, e2, e3⟩ := wf_fill (d := (Sum.inr ((0 : Int), W) : (Int × Int × pm_M) ⊕ (Int × pm_M))) (n := n) (w := 112) (g := fun j : Nat => if (j : Int) = W 99 (3 * x.toNat + 2) then 1 else 0) (S := W) (fin := fun U => Sum.inl ((-1 : Int), x + 1, U)) (B := B2) (fun y U y0 hU => by
              have r := congrFun hB2 (y, U)
              dsimp only at r
              show (n ≤ y → B2 (y, U) = .inr (Sum.inl ((-1 : Int), x + 1, U))) ∧ (y < n → B2 (y, U) = .inl (y + 1, pm_up U 112 y.toNat (if ((y.toNat : Nat) : Int) = W 99 (3 * x.toNat + 2) then (1 : Int) else 0)))
              rw [Int.toNat_of_nonneg y0]
              simp only [hU 99 (3 * x.toNat + 2) (by decide)] at r
              refine ⟨fun c1 => by rw [if_pos c1] at r; exact r, fun c1 => ?_⟩
              rw [if_neg (by omega)] at r
              by_cases ca : y = W 99 (3 * x.toNat + 2)
              · rw [if_neg (fun h => h ca)] at r
                rw [if_pos ca]
                exact r
              · rw [if_pos ca] at r
                rw [if_neg ca]
                exact r)
            refine Or.inl ⟨_, q2.trans e1, ⟨by dsimp only; omega, Or.inr ⟨rfl, x.toNat, by omega, c1, c2, fun i hi => p1 i (by omega), e2, e3⟩⟩, by dsimp only; omega⟩
          · rw [if_neg c2] at q
            exact Or.inl ⟨_, q, ⟨by dsimp only; omega, Or.inl ⟨hl, rfl, goon (fun r => c2 r.2)⟩⟩, by dsimp only; omega⟩
        · rw [if_pos c1] at q
          exact Or.inl ⟨_, q, ⟨by dsimp only; omega, Or.inl ⟨hl, rfl, goon (fun r => c1 r.1)⟩⟩, by dsimp only; omega⟩
    · have u16 : U 90 16 = n := (k5.1 90 16 (by decide)).trans hn
      have u21 : U 90 21 = W 90 21 := k5.1 90 21 (by decide)
      have fin : ∀ (d2 : (Int × Int × pm_M) ⊕ (Int × pm_M)) (B2 : Int × pm_M → (Int × pm_M) ⊕ ((Int × Int × pm_M) ⊕ (Int × pm_M))), B (a, x, U) = pf_val d2 B2 (0, pm_up U 90 51 0) → (∀ (x : Int) (U : pm_M), B2 (x, U) = if n ≤ x then .inr (Sum.inr ((0 : Int), U)) else .inl (x + 1, pm_up U 90 51 (U 90 51 + U 112 x.toNat))) → ∃ o, B (a, x, U) = .inr o ∧ Q o.2 := by
        intro d2 B2 q2 hB3
        obtain ⟨Z, u1, u2⟩ := rw_fin (d := d2) (fin := fun U => Sum.inr ((0 : Int), U)) k5 hn0 hB3
        exact ⟨_, q2.trans u1, Or.inr ⟨k, k1, k2, k3, k4, u2⟩⟩
      by_cases c : W 90 21 ≤ x
      · rw [if_pos (show U 90 21 ≤ x by omega), if_pos (show (a < 0 ∨ 6 < a) by omega)] at q
        simp only [u16] at q
        obtain ⟨B2, hB2, q2⟩ := pf_loop q
        exact Or.inr (fin _ B2 q2 fun x U => congrFun hB2 (x, U))
      · rw [if_neg (show ¬ U 90 21 ≤ x by omega), if_pos (show ¬ a = 5 by omega), if_pos (show (a < 0 ∨ 6 < a) by omega)] at q
        simp only [u16] at q
        obtain ⟨B2, hB2, q2⟩ := pf_loop q
        exact Or.inr (fin _ B2 q2 fun x U => congrFun hB2 (x, U))
