/-! OWN ODDS, on both sides -/
theorem wb.w {W X : pm_M} (h : wb W) (hX : ∀ k, k ≠ 100 → X k = W k) (hr : ∀ p : Nat, p < 10 → (-30 ≤ X 100 (4 * p) ∧ X 100 (4 * p) ≤ 30) ∧ (-30 ≤ X 100 (4 * p + 1) ∧ X 100 (4 * p + 1) ≤ 30) ∧ (0 ≤ X 100 (4 * p + 2) ∧ X 100 (4 * p + 2) ≤ 16)) : wb X := by
  have e90 := hX 90 (by decide)
  have e97 := hX 97 (by decide)
  have e98 := hX 98 (by decide)
  obtain ⟨h1, h2, h3, h4, h5, h6, h7, -⟩ := h
  unfold wb
  rw [e90, e97, e98]
  exact ⟨h1, h2, h3, h4, h5, h6, h7, hr⟩
/-- another's changes, another belief -/
theorem oq.w {p : Nat} {A B P A' B' P' : Int} {V W X : pm_M} (h : oq p A B P V W) (hX : ∀ k, k ≠ 100 → X k = W k) (hO : ∀ j, j ≠ 4 * p → j ≠ 4 * p + 1 → j ≠ 4 * p + 2 → X 100 j = W 100 j) (e0 : X 100 (4 * p) = A') (e1 : X 100 (4 * p + 1) = B') (e2 : X 100 (4 * p + 2) = P') (r0 : -30 ≤ A' ∧ A' ≤ 30) (r1 : -30 ≤ B' ∧ B' ≤ 30) (r2 : 0 ≤ P' ∧ P' ≤ 16) : oq p A' B' P' V X := by
  obtain ⟨⟨h1, h2, h3, h4, h5, h6⟩, -⟩ := h
  have e90 := hX 90 (by decide)
  have e101 := hX 101 (by decide)
  refine ⟨⟨h1.R (fun i _ => by rw [e90]) (fun k q => hX k (by rintro rfl; exact absurd q (by decide))), h2.R (fun k q => hX k (by rintro rfl; exact absurd q (by decide))) (by rw [e90]) (by rw [e90]; exact Int.le_refl _), ?_, ?_, h5.w hX fun q hq => ?_, h6⟩, e0, e1, e2⟩
  · unfold rl at h3 ⊢
    rw [e90, e101]
    exact h3
  · unfold rs at h4 ⊢
    rw [e90, e101]
    exact h4
  · by_cases ep : q = p
    · rw [ep, e0, e1, e2]
      exact ⟨r0, r1, r2⟩
    · rw [hO _ (by omega) (by omega) (by omega), hO _ (by omega) (by omega) (by omega), hO _ (by omega) (by omega) (by omega)]
      exact h5.2.2.2.2.2.2.2 q hq
theorem oq.of {p : Nat} {V W : pm_M} (h : gq V W) : oq p (W 100 (4 * p)) (W 100 (4 * p + 1)) (W 100 (4 * p + 2)) V W := ⟨⟨h.1.1, h.2.1, h.2.2.1, h.2.2.2, h.1.2.2.1, h.1.2.2.2⟩, rfl, rfl, rfl⟩
/-- what the class knows of a person -/
theorem gq_data {V W : pm_M} (h : gq V W) {p : Nat} (hp : (p : Int) < W 90 23) : V 5 p = W 100 (4 * p) ∧ V 6 p = W 100 (4 * p + 1) ∧ V 7 p = W 100 (4 * p + 2) := by
  have pn : (p : Int) < V 4 1 := by rw [h.1.1.2.2.2.2.1]; exact hp
  have q0 := h.1.2.1.1 p 0 pn (by decide)
  have q1 := h.1.2.1.1 p 1 pn (by decide)
  have q2 := h.1.2.1.1 p 2 pn (by decide)
  rw [show 0 + (4 * p + 0) = 4 * p by omega] at q0
  rw [show 0 + (4 * p + 1) = 4 * p + 1 by omega] at q1
  rw [show 0 + (4 * p + 2) = 4 * p + 2 by omega] at q2
  exact ⟨q0, q1, q2⟩
/-- the relation while odds are tried -/
def odr (p : Nat) (A B : Int) (W U Y : pm_M) : Prop := (∃ x, oq p A B x U Y) ∧ Y 101 = W 101 ∧ Y 90 25 = W 90 25
theorem od_step {p : Nat} {A B : Int} {W : pm_M} (hp : p < 10) (t : Nat) (l : Int) (U Y U1 Y1 : pm_M) (z z' : Int) (ht : t = 84 ∨ t = 87) (l0 : 0 ≤ l) (l1 : l < 17) (r : odr p A B W U Y) (m1 : F_X11_gatherOdds t (p : Int) A B l U = (z, U1)) (m2 : F_X12_fits_d0 4 (p : Int) (pm_up Y 100 (4 * p + 2) l) = (z', Y1)) : (∃ P Q, gg t (gn W (p : Int) (W 90 25).toNat) P Q U1 Y1) ∧ odr p A B W U1 Y1 ∧ vK t U U1 ∧ vP (fun r => r < 2) Y Y1 := by
  obtain ⟨⟨x, hx⟩, y1, y2⟩ := r
  have rg := hx.1.2.2.2.2.1.2.2.2.2.2.2.2 p hp
  rw [hx.2.1, hx.2.2.1] at rg
  have hq : oq p A B l U (pm_up Y 100 (4 * p + 2) l) := hx.w (fun k hk => pm_up_f hk) (fun j _ _ hj => pm_up_i hj) ((pm_up_i (by omega)).trans hx.2.1) ((pm_up_i (by omega)).trans hx.2.2.1) pm_up_s rg.1 rg.2.1 ⟨l0, by omega⟩
  obtain ⟨⟨P, Q, g⟩, g1, g2, g3, g4, g5⟩ := ga_own ht hq m1 m2
  rw [gn_fr (W := W) ((pm_up_f (by decide)).trans y1), pm_up_c (by decide), y2] at g
  refine ⟨⟨P, Q, g⟩, ⟨⟨l, g1⟩, ((g4.c (by decide)).trans (pm_up_f (by decide))).trans y1, ((g4.2 25 (by omega)).trans (pm_up_c (by decide))).trans y2⟩, g3, fun q hq => ⟨(g5 q hq).1.trans (pm_up_c (by decide)), fun i hi => ((g5 q hq).2 i hi).trans (pm_up_c (by decide))⟩⟩
theorem mB_odds {V W : pm_M} (h : gq V W) (hc : ck V) {p : Nat} (hp : (p : Int) < W 90 23) {C : Int × Int × pm_M → (Int × Int × pm_M) ⊕ (Int × pm_M)} {d' : Int × pm_M} (hC1 : ∀ (f l : Int) (T : pm_M), 17 ≤ l → ∃ T', C (f, l, T) = .inr (f, T')) (hC2 : ∀ (f l : Int) (T T1 : pm_M) (z : Int), ¬ 17 ≤ l → F_X12_fits_d0 4 (p : Int) (pm_up T 100 (4 * p + 2) l) = (z, T1) → (f = -2147483648 → ∀ z2 T2, F_X12_keeps T1 = (z2, T2) → C (f, l, T) = .inl (l, l + 1, T2)) ∧ (¬ f = -2147483648 → ∀ y T2, F_X12_against T1 = (y, T2) → (¬ 0 < y → C (f, l, T) = .inl (f, l + 1, T2)) ∧ (0 < y → ∀ z3 T3, F_X12_keeps T2 = (z3, T3) → C (f, l, T) = .inl (l, l + 1, T3)))) : ∃ y V1, F_X11_findOwnOdds (p : Int) V = (y, V1) ∧ (pf_val d' C (-2147483648, 0, W)).1 = y ∧ ck V1 := by
  have p10 : p < 10 := by
    have := h.1.2.2.1.2.2.2.1
    omega
  obtain ⟨d5, d6, -⟩ := gq_data h hp
  obtain ⟨A, hA⟩ : ∃ A, W 100 (4 * p) = A := ⟨_, rfl⟩
  obtain ⟨B, hB⟩ : ∃ B, W 100 (4 * p + 1) = B := ⟨_, rfl⟩
  rw [hA] at d5
  rw [hB] at d6
  have t5 : V 5 ((p : Int)).toNat = A := by rw [Int.toNat_natCast]; exact d5
  have t6 : V 6 ((p : Int)).toNat = B := by rw [Int.toNat_natCast]; exact d6
  have e := ((F_X11_findOwnOdds_eq (p : Int) V).trans (pf_let_eq t5)).trans (pf_let_eq t6)
  have hd : odr p A B W V W := ⟨⟨W 100 (4 * p + 2), by have q := oq.of (p := p) h; rw [hA, hB] at q; exact q⟩, rfl, rfl⟩
  have cls : ∀ (k t : Nat) (z0 : Int) (V0 : pm_M) (L : Int × Int × pm_M → (Int × Int × pm_M) ⊕ (Int × pm_M)), kt2 k t → V 0 12 = (k : Int) → V 0 13 = (t : Int) → F_X11_gatherOdds k (p : Int) A B 0 V = (z0, V0) → F_X11_findOwnOdds (p : Int) V = pf_val ((0 : Int), V) L (0, 1, V0) → (∀ (f l : Int) (T : pm_M), L (f, l, T) = if 16 < l then .inr (f, T) else if T 0 13 = 84 then (pf_call (F_X11_gatherOdds 84 (p : Int) A B l T) fun _ V42 => pf_call (F_X11_keepsTried V42) fun y55 V53 => if y55 = 0 then pf_let (l + 1) fun x65 => .inl (f, x65, V53) else pf_let (l + 1) fun x67 => .inl (l, x67, V53)) else (pf_call (F_X11_gatherOdds 87 (p : Int) A B l T) fun _ V70 => pf_call (F_X11_keepsTried V70) fun y83 V81 => if y83 = 0 then pf_let (l + 1) fun x93 => .inl (f, x93, V81) else pf_let (l + 1) fun x95 => .inl (l, x95, V81))) → ∃ y V1, F_X11_findOwnOdds (p : Int) V = (y, V1) ∧ (pf_val d' C (-2147483648, 0, W)).1 = y ∧ ck V1 := by
    intro k t z0 V0 L hk u12 u13 h0 hL hLb
    have key := lo_sim (R := odr p A B W) (fun U Y U' Y' r f g => ⟨⟨r.1.choose, r.1.choose_spec.fr f g⟩, (g.c (by decide)).trans r.2.1, (g.2 25 (by omega)).trans r.2.2⟩) (M := 17) (n0 := -2147483648) (by decide) (by decide) (s := gn W (p : Int) (W 90 25).toNat) (G := fun t l T => F_X11_gatherOdds t (p : Int) A B l T) (Fi := fun l T => F_X12_fits_d0 4 (p : Int) (pm_up T 100 (4 * p + 2) l)) (od_step p10) hd (B := L) (C := C) (d := ((0 : Int), V)) (d' := d') hk u12 u13 h0 (fun f l T c => (hLb f l T).trans (if_pos (by omega))) ?_ hC1 hC2
    · rw [← hL] at key
      exact ⟨_, _, rfl, key.1.symm, key.2⟩
    · intro f l T T1 T2 t z y c ht e13 m1 m2
      have q := (hLb f l T).trans (if_neg (show ¬ 16 < l by omega))
      rcases ht with rfl | rfl
      · have u : T 0 13 = 84 := e13
        replace q := ((q.trans (if_pos u)).trans (pf_call_eq m1)).trans (pf_call_eq m2)
        exact ⟨fun s => (q.trans (if_pos s)).trans (pf_let_eq rfl), fun s => (q.trans (if_neg s)).trans (pf_let_eq rfl)⟩
      · have u : ¬ T 0 13 = 84 := by rw [e13]; decide
        replace q := ((q.trans (if_neg u)).trans (pf_call_eq m1)).trans (pf_call_eq m2)
        exact ⟨fun s => (q.trans (if_pos s)).trans (pf_let_eq rfl), fun s => (q.trans (if_neg s)).trans (pf_let_eq rfl)⟩
  rcases hc with ⟨u12, u13⟩ | ⟨u12, u13⟩
  · obtain ⟨z0, V0, h0⟩ : ∃ z T, F_X11_gatherOdds 84 (p : Int) A B 0 V = (z, T) := ⟨_, _, rfl⟩
    replace e := (e.trans (if_pos u12)).trans (pf_call_eq h0)
    obtain ⟨L, hL, e⟩ := pf_loop e
    exact cls 84 87 z0 V0 L (Or.inl ⟨rfl, rfl⟩) u12 u13 h0 e (fun f l T => congrFun hL (f, l, T))
  · obtain ⟨z0, V0, h0⟩ : ∃ z T, F_X11_gatherOdds 87 (p : Int) A B 0 V = (z, T) := ⟨_, _, rfl⟩
    replace e := (e.trans (if_neg (by rw [u12]; decide))).trans (pf_call_eq h0)
    obtain ⟨L, hL, e⟩ := pf_loop e
    exact cls 87 84 z0 V0 L (Or.inr ⟨rfl, rfl⟩) u12 u13 h0 e (fun f l T => congrFun hL (f, l, T))
