/-! WEIGHTS: the calls parted and next -/
theorem nf_areLaws {V : pm_M} (a : Int) : ((0 ≤ a ∧ a / 10 ≤ 6 ∧ a % 10 ≤ 6) → F_X11_areLaws a V = (1, V)) ∧ (¬ (0 ≤ a ∧ a / 10 ≤ 6 ∧ a % 10 ≤ 6) → F_X11_areLaws a V = (0, V)) := by
  have e := F_X11_areLaws_eq a V
  refine ⟨fun q => ?_, fun q => ?_⟩
  · exact ((((e.trans (if_neg (show ¬ a < 0 by omega))).trans (pf_call_eq ((nf_isLaw (a / 10)).1 (by omega)))).trans (if_neg (by decide))).trans (pf_call_eq ((nf_isLaw (a % 10)).1 (by omega)))).trans (if_neg (by decide))
  · by_cases c : a < 0
    · exact e.trans (if_pos c)
    · by_cases c2 : 0 ≤ a / 10 ∧ a / 10 ≤ 6
      · exact ((((e.trans (if_neg c)).trans (pf_call_eq ((nf_isLaw (a / 10)).1 c2))).trans (if_neg (by decide))).trans (pf_call_eq ((nf_isLaw (a % 10)).2 (by omega)))).trans (if_pos (by decide))
      · exact ((e.trans (if_neg c)).trans (pf_call_eq ((nf_isLaw (a / 10)).2 c2))).trans (if_pos (by decide))
theorem nf_areLawsR {V : pm_M} (a : Int) : ((0 ≤ a ∧ a / 10 ≤ 6 ∧ a % 10 ≤ 6) → F_X12_areLaws a V = (1, V)) ∧ (¬ (0 ≤ a ∧ a / 10 ≤ 6 ∧ a % 10 ≤ 6) → F_X12_areLaws a V = (0, V)) := by
  have e := F_X12_areLaws_eq a V
  refine ⟨fun q => ?_, fun q => ?_⟩
  · exact ((((e.trans (if_neg (show ¬ a < 0 by omega))).trans (pf_call_eq ((nf_isLawR (a / 10)).1 (by omega)))).trans (if_neg (by decide))).trans (pf_call_eq ((nf_isLawR (a % 10)).1 (by omega)))).trans (if_neg (by decide))
  · by_cases c : a < 0
    · exact e.trans (if_pos c)
    · by_cases c2 : 0 ≤ a / 10 ∧ a / 10 ≤ 6
      · exact ((((e.trans (if_neg c)).trans (pf_call_eq ((nf_isLawR (a / 10)).1 c2))).trans (if_neg (by decide))).trans (pf_call_eq ((nf_isLawR (a % 10)).2 (by omega)))).trans (if_pos (by decide))
      · exact ((e.trans (if_neg c)).trans (pf_call_eq ((nf_isLawR (a / 10)).2 c2))).trans (if_pos (by decide))
theorem mB_parted {V W : pm_M} (h : wq V W) (ho : wo V) (a1 a2 a3 a4 : Int) : ∃ y V1 W1, F_X11_parted a1 a2 a3 a4 V = (y, V1) ∧ F_X12_parted a1 a2 a3 a4 W = (y, W1) ∧ wo V1 := by
  have hs := h.1.hs
  have h5 := h.1.2.2.2.2.1
  have e1 := F_X11_parted_eq a1 a2 a3 a4 V
  have e2 := (F_X12_parted_eq a1 a2 a3 a4 W).trans (pf_let_eq rfl)
  by_cases cl : 0 ≤ a1 ∧ a1 / 10 ≤ 6 ∧ a1 % 10 ≤ 6
  · replace e1 := (e1.trans (pf_call_eq ((nf_areLaws a1).1 cl))).trans (if_neg (by decide))
    replace e2 := (e2.trans (pf_call_eq ((nf_areLawsR a1).1 cl))).trans (if_neg (by decide))
    by_cases ct : 0 ≤ a2 ∧ a2 / 100 < W 90 23 ∧ a2 / 10 % 10 < W 90 16 ∧ a2 % 10 < W 90 16 ∧ 0 ≤ a3 ∧ a3 ≤ 99 ∧ -99 ≤ a4 ∧ a4 ≤ 99
    · replace e1 := (e1.trans (pf_call_eq ((nf_isTrial hs a2 a3 a4).1 (by rw [h5]; exact ct)))).trans (if_pos (by decide))
      replace e2 := (e2.trans (pf_call_eq ((nf_isTrialR a2 a3 a4).1 ct))).trans (if_pos (by decide))
      obtain ⟨y1, V1, hV⟩ : ∃ y Y, F_X11_pose a2 a3 a4 V = (y, Y) := ⟨_, _, rfl⟩
      obtain ⟨y2, W1, hW⟩ : ∃ y Y, F_X12_works a2 a3 a4 W = (y, Y) := ⟨_, _, rfl⟩
      obtain ⟨c, c0, c1, -, -, c2, c3⟩ := wz_pose h.1 h.2.1 h.2.2.1 h.2.2.2 ct.1 ct.2.1 ct.2.2.1 ct.2.2.2.1 ⟨ct.2.2.2.2.1, ct.2.2.2.2.2.1⟩ ct.2.2.2.2.2.2 hV hW
      obtain ⟨y, Z, X, p1, p2, -, -, p5⟩ := wz_parted c1 (ho.fC c2) (a := a1 / 10) (b := a1 % 10) ⟨by omega, cl.2.1⟩ ⟨by omega, cl.2.2⟩
      exact ⟨y, Z, X, (e1.trans (pf_call_eq hV)).trans (pf_call_eq p1), (((e2.trans (pf_call_eq hW)).trans (pf_let_eq rfl)).trans (pf_let_eq rfl)).trans (pf_call_eq p2), p5⟩
    · exact ⟨_, _, _, (e1.trans (pf_call_eq ((nf_isTrial hs a2 a3 a4).2 (by rw [h5]; exact ct)))).trans (if_neg (by decide)), (e2.trans (pf_call_eq ((nf_isTrialR a2 a3 a4).2 ct))).trans (if_neg (by decide)), ho⟩
  · exact ⟨_, _, _, (e1.trans (pf_call_eq ((nf_areLaws a1).2 cl))).trans (if_pos (by decide)), (e2.trans (pf_call_eq ((nf_areLawsR a1).2 cl))).trans (if_pos (by decide)), ho⟩
/-- one trial of next -/
theorem nx_one {U Y : pm_M} (h : wq U Y) (ho : wo U) {a1 a2 a3 v f k : Int} (hl : 0 ≤ a1 ∧ a1 / 10 ≤ 6 ∧ a1 % 10 ≤ 6) (hp : 0 ≤ a2 ∧ a2 < Y 90 23) (hd : 0 ≤ a3 ∧ a3 ≤ 9) (hk : 0 ≤ k ∧ k ≤ 9) (hv : 0 ≤ v ∧ v < Y 90 16) (hf : 0 ≤ f ∧ f < Y 90 16) : ∃ m z1 z2 U1 Y1 Z X, F_X11_pose (((a2 * 100) + (v * 10)) + f) ((k * 10) + a3) 0 U = (z1, U1) ∧ F_X10_partedBy (a1 / 10) (a1 % 10) U1 = (m, Z) ∧ F_X12_works (((100 * a2) + (10 * v)) + f) ((10 * k) + a3) 0 Y = (z2, Y1) ∧ F_X12_partedNow (a1 / 10) (a1 % 10) Y1 = (m, X) ∧ wq Z X ∧ wo Z ∧ gC U Z ∧ gR Y X := by
  have bn := h.2.2.1.1
  have b23 := h.2.2.1.2.2.2.1
  have ew : ((a2 * 100) + (v * 10)) + f = ((100 * a2) + (10 * v)) + f := by omega
  have es : (k * 10) + a3 = (10 * k) + a3 := by omega
  rw [ew, es]
  obtain ⟨g0, g1, g2, g3⟩ := pm_wvf (a := a2) (v := v) (f := f) ⟨hp.1, by omega⟩ ⟨hv.1, by omega⟩ ⟨hf.1, by omega⟩
  have g4 : (100 * a2 + 10 * v + f) / 100 = a2 := by omega
  obtain ⟨z1, U1, hV⟩ : ∃ y Z, F_X11_pose (((100 * a2) + (10 * v)) + f) ((10 * k) + a3) 0 U = (y, Z) := ⟨_, _, rfl⟩
  obtain ⟨z2, Y1, hW⟩ : ∃ y Z, F_X12_works (((100 * a2) + (10 * v)) + f) ((10 * k) + a3) 0 Y = (y, Z) := ⟨_, _, rfl⟩
  obtain ⟨c, c0, c1, -, -, c2, c3⟩ := wz_pose h.1 h.2.1 h.2.2.1 h.2.2.2 g0 (by rw [g4]; exact hp.2) (by rw [g3]; exact hv.2) (by rw [g2]; exact hf.2) ⟨by omega, by omega⟩ ⟨by decide, by decide⟩ hV hW
  obtain ⟨m, Z, X, p1, p2, p3, p4, p5⟩ := wz_parted c1 (ho.fC c2) (a := a1 / 10) (b := a1 % 10) ⟨by omega, hl.2.1⟩ ⟨by omega, hl.2.2⟩
  have q3 := c2.g.tr p3
  have q4 := c3.g.tr p4
  exact ⟨m, z1, z2, U1, Y1, Z, X, hV, p1, hW, p2, h.gr q3 q4 p5.h13, p5, q3, q4⟩
abbrev nx_S : Type := Int × Int × Int × pm_M
theorem nx_in {V W U Y : pm_M} {O P : Type} {d : (nx_S) ⊕ O} {d' : (nx_S) ⊕ P} {n a1 a2 a3 v f m b : Int} {BI : nx_S → nx_S ⊕ (nx_S ⊕ O)} {CI : nx_S → nx_S ⊕ (nx_S ⊕ P)} (hn : W 90 16 = n) (hl : 0 ≤ a1 ∧ a1 / 10 ≤ 6 ∧ a1 % 10 ≤ 6) (hp : 0 ≤ a2 ∧ a2 < W 90 23) (hd : 0 ≤ a3 ∧ a3 ≤ 9) (hv : 0 ≤ v ∧ v < n) (hf : 0 ≤ f ∧ f < n) (hB : ∀ (x y k : Int) (T : pm_M), BI (x, y, k, T) = if 10 ≤ k then .inr (.inl (x, y, f + 1, T)) else pf_call (F_X11_pose (((a2 * 100) + (v * 10)) + f) ((k * 10) + a3) 0 T) fun _ V87 => pf_call (F_X10_partedBy (a1 / 10) (a1 % 10) V87) fun y99 V97 => (if y99 ≤ x then .inl (x, y, k + 1, V97) else .inl (y99, ((v * 100) + (f * 10)) + k, k + 1, V97))) (hC : ∀ (x y k : Int) (T : pm_M), CI (x, y, k, T) = if 10 ≤ k then .inr (.inl (x, y, f + 1, T)) else pf_call (F_X12_works (((100 * a2) + (10 * v)) + f) ((10 * k) + a3) 0 T) fun _ V98 => pf_call (F_X12_partedNow (a1 / 10) (a1 % 10) V98) fun y120 V116 => (if y < y120 then .inl (((100 * v) + (10 * f)) + k, y120, k + 1, V116) else .inl (x, y, k + 1, V116))) (h : wq U Y) (ho : wo U) (gc : gC V U) (gr : gR W Y) : ∃ m' b' Z X, pf_val d BI (m, b, 0, U) = .inl (m', b', f + 1, Z) ∧ pf_val d' CI (b, m, 0, Y) = .inl (b', m', f + 1, X) ∧ wq Z X ∧ wo Z ∧ gC V Z ∧ gR W X := by
  have key := pf_sim (d := d) (d' := d') (b := BI) (b' := CI) (fun s t => s.1 = t.2.1 ∧ s.2.1 = t.1 ∧ s.2.2.1 = t.2.2.1 ∧ 0 ≤ s.2.2.1 ∧ wq s.2.2.2 t.2.2.2 ∧ wo s.2.2.2 ∧ gC V s.2.2.2 ∧ gR W t.2.2.2) (fun q r => ∃ m' b' Z X, q = .inl (m', b', f + 1, Z) ∧ r = .inl (b', m', f + 1, X) ∧ wq Z X ∧ wo Z ∧ gC V Z ∧ gR W X) (fun s => (10 - s.2.2.1).toNat) ?_ (m, b, 0, U) (b, m, 0, Y) ⟨rfl, rfl, rfl, Int.le_refl _, h, ho, gc, gr⟩
  · exact key
  · rintro ⟨x, y, k, T⟩ ⟨y', x', k', S⟩ ⟨rfl, rfl, rfl, p0, p1, p2, p3, p4⟩
    dsimp only at p0 p1 p2 p3 p4
    have q1 := hB x y k T
    have q2 := hC y x k S
    by_cases ck : 10 ≤ k
    · exact Or.inr ⟨_, _, q1.trans (if_pos ck), q2.trans (if_pos ck), x, y, T, S, rfl, rfl, p1, p2, p3, p4⟩
    · have s16 : S 90 16 = n := (p4.2 16 (by omega)).trans hn
      have s23 : S 90 23 = W 90 23 := p4.2 23 (by omega)
      obtain ⟨r, z1, z2, U1, Y1, Z, X, k1, k2, k3, k4, k5, k6, k7, k8⟩ := nx_one p1 p2 (a1 := a1) (a2 := a2) (a3 := a3) (v := v) (f := f) (k := k) hl (by rw [s23]; exact hp) hd ⟨p0, by omega⟩ (by rw [s16]; exact hv) (by rw [s16]; exact hf)
      replace q1 := ((q1.trans (if_neg ck)).trans (pf_call_eq k1)).trans (pf_call_eq k2)
      replace q2 := ((q2.trans (if_neg ck)).trans (pf_call_eq k3)).trans (pf_call_eq k4)
      by_cases cr : r ≤ x
      · exact Or.inl ⟨_, _, q1.trans (if_pos cr), q2.trans (if_neg (show ¬ x < r by omega)), ⟨rfl, rfl, rfl, by dsimp only; omega, k5, k6, p3.tr k7, p4.tr k8⟩, by dsimp only; omega⟩
      · exact Or.inl ⟨_, _, q1.trans (if_neg cr), q2.trans (if_pos (show x < r by omega)), ⟨rfl, by dsimp only; omega, rfl, by dsimp only; omega, k5, k6, p3.tr k7, p4.tr k8⟩, by dsimp only; omega⟩
theorem nx_mid {V W U Y : pm_M} {O P : Type} {d : nx_S ⊕ O} {d' : nx_S ⊕ P} {e : (nx_S) ⊕ (nx_S ⊕ O)} {e' : (nx_S) ⊕ (nx_S ⊕ P)} {n a1 a2 a3 v m b : Int} {BM : nx_S → nx_S ⊕ (nx_S ⊕ O)} {CM : nx_S → nx_S ⊕ (nx_S ⊕ P)} {BI : Int → nx_S → nx_S ⊕ (nx_S ⊕ (nx_S ⊕ O))} {CI : Int → nx_S → nx_S ⊕ (nx_S ⊕ (nx_S ⊕ P))} (hn : W 90 16 = n) (hl : 0 ≤ a1 ∧ a1 / 10 ≤ 6 ∧ a1 % 10 ≤ 6) (hp : 0 ≤ a2 ∧ a2 < W 90 23) (hd : 0 ≤ a3 ∧ a3 ≤ 9) (hv : 0 ≤ v ∧ v < n) (hBM : ∀ (x y f : Int) (T : pm_M), BM (x, y, f, T) = if n ≤ f then .inr (.inl (x, y, v + 1, T)) else pf_val e (BI f) (x, y, 0, T)) (hCM : ∀ (x y f : Int) (T : pm_M), CM (x, y, f, T) = if n ≤ f then .inr (.inl (x, y, v + 1, T)) else pf_val e' (CI f) (x, y, 0, T)) (hB : ∀ (f x y k : Int) (T : pm_M), BI f (x, y, k, T) = if 10 ≤ k then .inr (.inl (x, y, f + 1, T)) else pf_call (F_X11_pose (((a2 * 100) + (v * 10)) + f) ((k * 10) + a3) 0 T) fun _ V87 => pf_call (F_X10_partedBy (a1 / 10) (a1 % 10) V87) fun y99 V97 => (if y99 ≤ x then .inl (x, y, k + 1, V97) else .inl (y99, ((v * 100) + (f * 10)) + k, k + 1, V97))) (hC : ∀ (f x y k : Int) (T : pm_M), CI f (x, y, k, T) = if 10 ≤ k then .inr (.inl (x, y, f + 1, T)) else pf_call (F_X12_works (((100 * a2) + (10 * v)) + f) ((10 * k) + a3) 0 T) fun _ V98 => pf_call (F_X12_partedNow (a1 / 10) (a1 % 10) V98) fun y120 V116 => (if y < y120 then .inl (((100 * v) + (10 * f)) + k, y120, k + 1, V116) else .inl (x, y, k + 1, V116))) (h : wq U Y) (ho : wo U) (gc : gC V U) (gr : gR W Y) : ∃ m' b' Z X, pf_val d BM (m, b, 0, U) = .inl (m', b', v + 1, Z) ∧ pf_val d' CM (b, m, 0, Y) = .inl (b', m', v + 1, X) ∧ wq Z X ∧ wo Z ∧ gC V Z ∧ gR W X := by
  have key := pf_sim (d := d) (d' := d') (b := BM) (b' := CM) (fun s t => s.1 = t.2.1 ∧ s.2.1 = t.1 ∧ s.2.2.1 = t.2.2.1 ∧ 0 ≤ s.2.2.1 ∧ wq s.2.2.2 t.2.2.2 ∧ wo s.2.2.2 ∧ gC V s.2.2.2 ∧ gR W t.2.2.2) (fun q r => ∃ m' b' Z X, q = .inl (m', b', v + 1, Z) ∧ r = .inl (b', m', v + 1, X) ∧ wq Z X ∧ wo Z ∧ gC V Z ∧ gR W X) (fun s => (n - s.2.2.1).toNat) ?_ (m, b, 0, U) (b, m, 0, Y) ⟨rfl, rfl, rfl, Int.le_refl _, h, ho, gc, gr⟩
  · exact key
  · rintro ⟨x, y, f, T⟩ ⟨y', x', f', S⟩ ⟨rfl, rfl, rfl, p0, p1, p2, p3, p4⟩
    dsimp only at p0 p1 p2 p3 p4
    have q1 := hBM x y f T
    have q2 := hCM y x f S
    by_cases cf : n ≤ f
    · exact Or.inr ⟨_, _, q1.trans (if_pos cf), q2.trans (if_pos cf), x, y, T, S, rfl, rfl, p1, p2, p3, p4⟩
    · obtain ⟨m', b', Z, X, k1, k2, k3, k4, k5, k6⟩ := nx_in (d := e) (d' := e') (m := x) (b := y) (f := f) hn hl hp hd hv ⟨p0, by omega⟩ (hB f) (hC f) p1 p2 p3 p4
      exact Or.inl ⟨_, _, (q1.trans (if_neg cf)).trans k1, (q2.trans (if_neg cf)).trans k2, ⟨rfl, rfl, rfl, by dsimp only; omega, k3, k4, k5, k6⟩, by dsimp only; omega⟩
/-- the whole of next's loops -/
theorem nx_out {V W : pm_M} {n a1 a2 a3 a4 : Int} {d d' : Int × pm_M} {BO CO : nx_S → nx_S ⊕ (Int × pm_M)} (hn : W 90 16 = n) (hl : 0 ≤ a1 ∧ a1 / 10 ≤ 6 ∧ a1 % 10 ≤ 6) (hp : 0 ≤ a2 ∧ a2 < W 90 23) (hd : 0 ≤ a3 ∧ a3 ≤ 9) (h : wq V W) (ho : wo V) (hBO : ∀ (x y v : Int) (T : pm_M), gC V T → wq T W ∨ True → (n ≤ v → BO (x, y, v, T) = .inr (if a4 = 0 then y else x, T)) ∧ (¬ n ≤ v → ∃ (e0 : nx_S ⊕ (Int × pm_M)) (e : (nx_S) ⊕ (nx_S ⊕ (Int × pm_M))) (BM : nx_S → nx_S ⊕ (nx_S ⊕ (Int × pm_M))) (BI : Int → nx_S → nx_S ⊕ (nx_S ⊕ (nx_S ⊕ (Int × pm_M)))), BO (x, y, v, T) = pf_val e0 BM (x, y, 0, T) ∧ (∀ (x y f : Int) (T : pm_M), BM (x, y, f, T) = if n ≤ f then .inr (.inl (x, y, v + 1, T)) else pf_val e (BI f) (x, y, 0, T)) ∧ ∀ (f x y k : Int) (T : pm_M), BI f (x, y, k, T) = if 10 ≤ k then .inr (.inl (x, y, f + 1, T)) else pf_call (F_X11_pose (((a2 * 100) + (v * 10)) + f) ((k * 10) + a3) 0 T) fun _ V87 => pf_call (F_X10_partedBy (a1 / 10) (a1 % 10) V87) fun y99 V97 => (if y99 ≤ x then .inl (x, y, k + 1, V97) else .inl (y99, ((v * 100) + (f * 10)) + k, k + 1, V97)))) (hCO : ∀ (x y v : Int) (T : pm_M), (n ≤ v → CO (x, y, v, T) = .inr (if a4 = 0 then x else y, T)) ∧ (¬ n ≤ v → ∃ (e0 : nx_S ⊕ (Int × pm_M)) (e : (nx_S) ⊕ (nx_S ⊕ (Int × pm_M))) (CM : nx_S → nx_S ⊕ (nx_S ⊕ (Int × pm_M))) (CI : Int → nx_S → nx_S ⊕ (nx_S ⊕ (nx_S ⊕ (Int × pm_M)))), CO (x, y, v, T) = pf_val e0 CM (x, y, 0, T) ∧ (∀ (x y f : Int) (T : pm_M), CM (x, y, f, T) = if n ≤ f then .inr (.inl (x, y, v + 1, T)) else pf_val e (CI f) (x, y, 0, T)) ∧ ∀ (f x y k : Int) (T : pm_M), CI f (x, y, k, T) = if 10 ≤ k then .inr (.inl (x, y, f + 1, T)) else pf_call (F_X12_works (((100 * a2) + (10 * v)) + f) ((10 * k) + a3) 0 T) fun _ V98 => pf_call (F_X12_partedNow (a1 / 10) (a1 % 10) V98) fun y120 V116 => (if y < y120 then .inl (((100 * v) + (10 * f)) + k, y120, k + 1, V116) else .inl (x, y, k + 1, V116)))) : (pf_val d BO (-1, -1, 0, V)).1 = (pf_val d' CO (-1, -1, 0, W)).1 ∧ wo (pf_val d BO (-1, -1, 0, V)).2 := by
  refine pf_sim (d := d) (d' := d') (b := BO) (b' := CO) (fun s t => s.1 = t.2.1 ∧ s.2.1 = t.1 ∧ s.2.2.1 = t.2.2.1 ∧ 0 ≤ s.2.2.1 ∧ wq s.2.2.2 t.2.2.2 ∧ wo s.2.2.2 ∧ gC V s.2.2.2 ∧ gR W t.2.2.2) (fun q r => q.1 = r.1 ∧ wo q.2) (fun s => (n - s.2.2.1).toNat) ?_ (-1, -1, 0, V) (-1, -1, 0, W) ⟨rfl, rfl, rfl, Int.le_refl _, h, ho, gC.rf, gR.rf⟩
  rintro ⟨x, y, v, T⟩ ⟨y', x', v', S⟩ ⟨rfl, rfl, rfl, p0, p1, p2, p3, p4⟩
  dsimp only at p0 p1 p2 p3 p4
  obtain ⟨q1, q2⟩ := hBO x y v T p3 (Or.inr trivial)
  obtain ⟨r1, r2⟩ := hCO y x v S
  by_cases cv : n ≤ v
  · exact Or.inr ⟨_, _, q1 cv, r1 cv, rfl, p2⟩
  · obtain ⟨e0, e, BM, BI, b1, b2, b3⟩ := q2 cv
    obtain ⟨e0', e', CM, CI, c1, c2, c3⟩ := r2 cv
    obtain ⟨m', b', Z, X, k1, k2, k3, k4, k5, k6⟩ := nx_mid (d := e0) (d' := e0') (e := e) (e' := e') (m := x) (b := y) (v := v) hn hl hp hd ⟨p0, by omega⟩ b2 c2 b3 c3 p1 p2 p3 p4
    exact Or.inl ⟨_, _, b1.trans k1, c1.trans k2, ⟨rfl, rfl, rfl, by dsimp only; omega, k3, k4, k5, k6⟩, by dsimp only; omega⟩
set_option maxHeartbeats 4000000 in
theorem mB_next {V W : pm_M} (h : wq V W) (ho : wo V) (a1 a2 a3 a4 : Int) : ∃ y V1 W1, F_X11_next a1 a2 a3 a4 V = (y, V1) ∧ F_X12_next a1 a2 a3 a4 W = (y, W1) ∧ wo V1 := by
  have h5 := h.1.2.2.2.2.1
  have e1 := F_X11_next_eq a1 a2 a3 a4 V
  have e2 := (F_X12_next_eq a1 a2 a3 a4 W).trans (pf_let_eq rfl)
  obtain ⟨n, hn⟩ : ∃ n, W 90 16 = n := ⟨_, rfl⟩
  rw [hn] at e2
  by_cases cl : 0 ≤ a1 ∧ a1 / 10 ≤ 6 ∧ a1 % 10 ≤ 6
  · replace e1 := (e1.trans (pf_call_eq ((nf_areLaws a1).1 cl))).trans (if_neg (by decide))
    replace e2 := (e2.trans (pf_call_eq ((nf_areLawsR a1).1 cl))).trans (if_neg (by decide))
    by_cases cp : 0 ≤ a2 ∧ a2 < W 90 23
    · replace e2 := (e2.trans (pf_call_eq ((nf_isPersonR a2).1 cp))).trans (if_neg (by decide))
      by_cases cd : 0 ≤ a3 ∧ a3 ≤ 9
      · replace e1 := (e1.trans (if_neg (show ¬ a3 < 0 by omega))).trans (if_neg (show ¬ 10 ≤ a3 by omega))
        replace e2 := (e2.trans (pf_call_eq ((nf_in a3 0 9).1 cd))).trans (if_neg (by decide))
        by_cases c4 : 0 ≤ a4 ∧ a4 ≤ 1
        · replace e2 := (e2.trans (pf_call_eq ((nf_in a4 0 1).1 c4))).trans (if_pos (by decide))
          obtain ⟨CO, hCO, e2⟩ := pf_loop e2
          have hc : ∀ (x y v : Int) (T : pm_M), (n ≤ v → CO (x, y, v, T) = .inr (if a4 = 0 then x else y, T)) ∧ (¬ n ≤ v → ∃ (e0 : nx_S ⊕ (Int × pm_M)) (e : (nx_S) ⊕ (nx_S ⊕ (Int × pm_M))) (CM : nx_S → nx_S ⊕ (nx_S ⊕ (Int × pm_M))) (CI : Int → nx_S → nx_S ⊕ (nx_S ⊕ (nx_S ⊕ (Int × pm_M)))), CO (x, y, v, T) = pf_val e0 CM (x, y, 0, T) ∧ (∀ (x y f : Int) (T : pm_M), CM (x, y, f, T) = if n ≤ f then .inr (.inl (x, y, v + 1, T)) else pf_val e (CI f) (x, y, 0, T)) ∧ ∀ (f x y k : Int) (T : pm_M), CI f (x, y, k, T) = if 10 ≤ k then .inr (.inl (x, y, f + 1, T)) else pf_call (F_X12_works (((100 * a2) + (10 * v)) + f) ((10 * k) + a3) 0 T) fun _ V98 => pf_call (F_X12_partedNow (a1 / 10) (a1 % 10) V98) fun y120 V116 => (if y < y120 then .inl (((100 * v) + (10 * f)) + k, y120, k + 1, V116) else .inl (x, y, k + 1, V116))) := by
            intro x y v T
            have q := congrFun hCO (x, y, v, T)
            simp only [] at q
            refine ⟨fun cv => ?_, fun cv => ?_⟩
            · replace q := q.trans (if_pos cv)
              by_cases c0 : a4 = 0
              · rw [if_pos c0]
                exact q.trans (if_neg (fun r => r c0))
              · rw [if_neg c0]
                exact q.trans (if_pos c0)
            · replace q := q.trans (if_neg cv)
              exact ⟨_, (Sum.inr (Sum.inr ((0 : Int), W))), _, (fun f q => match q with | (x75, x77, x79, V81) => ((if 10 ≤ x79 then (.inr (.inl (x75, x77, f + 1, V81))) else (pf_call (F_X12_works (((100 * a2) + (10 * v)) + f) ((10 * x79) + a3) 0 V81) fun _ V98 => pf_call (F_X12_partedNow (a1 / 10) (a1 % 10) V98) fun y120 V116 => (if x77 < y120 then (.inl ((((100 * v) + (10 * f)) + x79), y120, x79 + 1, V116)) else (.inl (x75, x77, x79 + 1, V116))))))), q, fun x y f T => rfl, fun f x y k T => rfl⟩
          have fin : ∀ (d : Int × pm_M) (BO : nx_S → nx_S ⊕ (Int × pm_M)), F_X11_next a1 a2 a3 a4 V = pf_val d BO (-1, -1, 0, V) → (∀ (x y v : Int) (T : pm_M), gC V T → wq T W ∨ True → (n ≤ v → BO (x, y, v, T) = .inr (if a4 = 0 then y else x, T)) ∧ (¬ n ≤ v → ∃ (e0 : nx_S ⊕ (Int × pm_M)) (e : (nx_S) ⊕ (nx_S ⊕ (Int × pm_M))) (BM : nx_S → nx_S ⊕ (nx_S ⊕ (Int × pm_M))) (BI : Int → nx_S → nx_S ⊕ (nx_S ⊕ (nx_S ⊕ (Int × pm_M)))), BO (x, y, v, T) = pf_val e0 BM (x, y, 0, T) ∧ (∀ (x y f : Int) (T : pm_M), BM (x, y, f, T) = if n ≤ f then .inr (.inl (x, y, v + 1, T)) else pf_val e (BI f) (x, y, 0, T)) ∧ ∀ (f x y k : Int) (T : pm_M), BI f (x, y, k, T) = if 10 ≤ k then .inr (.inl (x, y, f + 1, T)) else pf_call (F_X11_pose (((a2 * 100) + (v * 10)) + f) ((k * 10) + a3) 0 T) fun _ V87 => pf_call (F_X10_partedBy (a1 / 10) (a1 % 10) V87) fun y99 V97 => (if y99 ≤ x then .inl (x, y, k + 1, V97) else .inl (y99, ((v * 100) + (f * 10)) + k, k + 1, V97)))) → ∃ y V1 W1, F_X11_next a1 a2 a3 a4 V = (y, V1) ∧ F_X12_next a1 a2 a3 a4 W = (y, W1) ∧ wo V1 := by
            intro d BO r hb
            have key := nx_out (d := d) (d' := ((0 : Int), W)) hn cl cp cd h ho hb hc
            rw [← r, ← e2] at key
            exact ⟨(F_X11_next a1 a2 a3 a4 V).1, (F_X11_next a1 a2 a3 a4 V).2, (F_X12_next a1 a2 a3 a4 W).2, rfl, Prod.ext key.1.symm rfl, key.2⟩
          obtain ⟨c, hcc, c0, cn⟩ := h.cc
          rw [hn] at cn
          by_cases z4 : a4 = 0
          · replace e1 := ((e1.trans (if_pos z4)).trans (pf_call_eq ((nf_isPerson a2).1 (by rw [h5]; exact cp)))).trans (if_pos (by decide))
            obtain ⟨BO, hBO, e1⟩ := pf_loop e1
            refine fin _ BO e1 (fun x y v T gT _ => ?_)
            have q := congrFun hBO (x, y, v, T)
            simp only [] at q
            have t8 : T 0 8 = (c : Int) := (gT 0 8 (Or.inl (by decide))).trans c0
            have tn : T c 0 = n := (gT c 0 (Or.inl (by omega))).trans cn
            rcases hcc with rfl | rfl
            · have k0 : T 0 8 = 45 := t8
              replace q := (q.trans (if_pos k0)).trans (pf_let_eq tn)
              refine ⟨fun cv => ?_, fun cv => ?_⟩
              · rw [if_pos z4]
                exact (q.trans (if_pos cv)).trans (if_neg (fun r => r z4))
              · replace q := q.trans (if_neg cv)
                exact ⟨_, (Sum.inr (Sum.inr ((0 : Int), V))), _, (fun f q => match q with | (x65, x67, x69, V71) => ((if 10 ≤ x69 then (.inr (.inl (x65, x67, f + 1, V71))) else (pf_call (F_X11_pose (((a2 * 100) + (v * 10)) + f) ((x69 * 10) + a3) 0 V71) fun _ V87 => pf_call (F_X10_partedBy (a1 / 10) (a1 % 10) V87) fun y99 V97 => (if y99 ≤ x65 then (.inl (x65, x67, x69 + 1, V97)) else (.inl (y99, (((v * 100) + (f * 10)) + x69), x69 + 1, V97))))))), q, fun x y f T => rfl, fun f x y k T => rfl⟩
            · have k0 : T 0 8 = 51 := t8
              replace q := (q.trans (if_neg (show ¬ T 0 8 = 45 by omega))).trans (pf_let_eq tn)
              refine ⟨fun cv => ?_, fun cv => ?_⟩
              · rw [if_pos z4]
                exact (q.trans (if_pos cv)).trans (if_neg (fun r => r z4))
              · replace q := q.trans (if_neg cv)
                exact ⟨_, (Sum.inr (Sum.inr ((0 : Int), V))), _, (fun f q => match q with | (x65, x67, x69, V71) => ((if 10 ≤ x69 then (.inr (.inl (x65, x67, f + 1, V71))) else (pf_call (F_X11_pose (((a2 * 100) + (v * 10)) + f) ((x69 * 10) + a3) 0 V71) fun _ V87 => pf_call (F_X10_partedBy (a1 / 10) (a1 % 10) V87) fun y99 V97 => (if y99 ≤ x65 then (.inl (x65, x67, x69 + 1, V97)) else (.inl (y99, (((v * 100) + (f * 10)) + x69), x69 + 1, V97))))))), q, fun x y f T => rfl, fun f x y k T => rfl⟩
          · replace e1 := (((e1.trans (if_neg z4)).trans (if_neg (show ¬ ¬ a4 = 1 by omega))).trans (pf_call_eq ((nf_isPerson a2).1 (by rw [h5]; exact cp)))).trans (if_pos (by decide))
            obtain ⟨BO, hBO, e1⟩ := pf_loop e1
            refine fin _ BO e1 (fun x y v T gT _ => ?_)
            have q := congrFun hBO (x, y, v, T)
            simp only [] at q
            have t8 : T 0 8 = (c : Int) := (gT 0 8 (Or.inl (by decide))).trans c0
            have tn : T c 0 = n := (gT c 0 (Or.inl (by omega))).trans cn
            rcases hcc with rfl | rfl
            · have k0 : T 0 8 = 45 := t8
              replace q := (q.trans (if_pos k0)).trans (pf_let_eq tn)
              refine ⟨fun cv => ?_, fun cv => ?_⟩
              · rw [if_neg z4]
                exact (q.trans (if_pos cv)).trans (if_pos z4)
              · replace q := q.trans (if_neg cv)
                exact ⟨_, (Sum.inr (Sum.inr ((0 : Int), V))), _, (fun f q => match q with | (x65, x67, x69, V71) => ((if 10 ≤ x69 then (.inr (.inl (x65, x67, f + 1, V71))) else (pf_call (F_X11_pose (((a2 * 100) + (v * 10)) + f) ((x69 * 10) + a3) 0 V71) fun _ V87 => pf_call (F_X10_partedBy (a1 / 10) (a1 % 10) V87) fun y99 V97 => (if y99 ≤ x65 then (.inl (x65, x67, x69 + 1, V97)) else (.inl (y99, (((v * 100) + (f * 10)) + x69), x69 + 1, V97))))))), q, fun x y f T => rfl, fun f x y k T => rfl⟩
            · have k0 : T 0 8 = 51 := t8
              replace q := (q.trans (if_neg (show ¬ T 0 8 = 45 by omega))).trans (pf_let_eq tn)
              refine ⟨fun cv => ?_, fun cv => ?_⟩
              · rw [if_neg z4]
                exact (q.trans (if_pos cv)).trans (if_pos z4)
              · replace q := q.trans (if_neg cv)
                exact ⟨_, (Sum.inr (Sum.inr ((0 : Int), V))), _, (fun f q => match q with | (x65, x67, x69, V71) => ((if 10 ≤ x69 then (.inr (.inl (x65, x67, f + 1, V71))) else (pf_call (F_X11_pose (((a2 * 100) + (v * 10)) + f) ((x69 * 10) + a3) 0 V71) fun _ V87 => pf_call (F_X10_partedBy (a1 / 10) (a1 % 10) V87) fun y99 V97 => (if y99 ≤ x65 then (.inl (x65, x67, x69 + 1, V97)) else (.inl (y99, (((v * 100) + (f * 10)) + x69), x69 + 1, V97))))))), q, fun x y f T => rfl, fun f x y k T => rfl⟩
        · replace e2 := (e2.trans (pf_call_eq ((nf_in a4 0 1).2 c4))).trans (if_neg (by decide))
          exact ⟨_, _, _, (e1.trans (if_neg (show ¬ a4 = 0 by omega))).trans (if_pos (show ¬ a4 = 1 by omega)), e2, ho⟩
      · replace e2 := (e2.trans (pf_call_eq ((nf_in a3 0 9).2 cd))).trans (if_pos (by decide))
        by_cases c3 : a3 < 0
        · exact ⟨_, _, _, e1.trans (if_pos c3), e2, ho⟩
        · exact ⟨_, _, _, (e1.trans (if_neg c3)).trans (if_pos (by omega)), e2, ho⟩
    · replace e2 := (e2.trans (pf_call_eq ((nf_isPersonR a2).2 cp))).trans (if_pos (by decide))
      by_cases c3 : a3 < 0
      · exact ⟨_, _, _, e1.trans (if_pos c3), e2, ho⟩
      replace e1 := e1.trans (if_neg c3)
      by_cases c10 : 10 ≤ a3
      · exact ⟨_, _, _, e1.trans (if_pos c10), e2, ho⟩
      replace e1 := e1.trans (if_neg c10)
      by_cases z4 : a4 = 0
      · exact ⟨_, _, _, ((e1.trans (if_pos z4)).trans (pf_call_eq ((nf_isPerson a2).2 (by rw [h5]; exact cp)))).trans (if_neg (by decide)), e2, ho⟩
      replace e1 := e1.trans (if_neg z4)
      by_cases o4 : a4 = 1
      · exact ⟨_, _, _, ((e1.trans (if_neg (fun r => r o4))).trans (pf_call_eq ((nf_isPerson a2).2 (by rw [h5]; exact cp)))).trans (if_neg (by decide)), e2, ho⟩
      · exact ⟨_, _, _, e1.trans (if_pos o4), e2, ho⟩
  · exact ⟨_, _, _, (e1.trans (pf_call_eq ((nf_areLaws a1).2 cl))).trans (if_pos (by decide)), (e2.trans (pf_call_eq ((nf_areLawsR a1).2 cl))).trans (if_pos (by decide)), ho⟩
section MA5
variable {V : pm_M}
theorem mA_parted (_ : (V 0 8 = 45 ∧ V 45 0 = 0) ∨ (V 0 8 = 51 ∧ V 51 0 = 0)) (h5 : V 4 1 = 0) (_ : V 4 6 = 0) (_ : V 15 0 = 0) (_ : V 25 0 = 0) (_ : V 35 0 = 0) (a1 a2 a3 a4 : Int) : F_X11_parted a1 a2 a3 a4 V = (-1, V) := by
  have e1 := F_X11_parted_eq a1 a2 a3 a4 V
  by_cases cl : 0 ≤ a1 ∧ a1 / 10 ≤ 6 ∧ a1 % 10 ≤ 6
  · exact (((e1.trans (pf_call_eq ((nf_areLaws a1).1 cl))).trans (if_neg (by decide))).trans (pf_call_eq (mA_isTrial h5 a2 a3 a4))).trans (if_neg (by decide))
  · exact (e1.trans (pf_call_eq ((nf_areLaws a1).2 cl))).trans (if_pos (by decide))
theorem mA_next (_ : (V 0 8 = 45 ∧ V 45 0 = 0) ∨ (V 0 8 = 51 ∧ V 51 0 = 0)) (h5 : V 4 1 = 0) (_ : V 4 6 = 0) (_ : V 15 0 = 0) (_ : V 25 0 = 0) (_ : V 35 0 = 0) (a1 a2 a3 a4 : Int) : F_X11_next a1 a2 a3 a4 V = (-1, V) := by
  have e1 := F_X11_next_eq a1 a2 a3 a4 V
  by_cases cl : 0 ≤ a1 ∧ a1 / 10 ≤ 6 ∧ a1 % 10 ≤ 6
  · replace e1 := (e1.trans (pf_call_eq ((nf_areLaws a1).1 cl))).trans (if_neg (by decide))
    by_cases c3 : a3 < 0
    · exact e1.trans (if_pos c3)
    replace e1 := e1.trans (if_neg c3)
    by_cases c10 : 10 ≤ a3
    · exact e1.trans (if_pos c10)
    replace e1 := e1.trans (if_neg c10)
    by_cases z4 : a4 = 0
    · exact ((e1.trans (if_pos z4)).trans (pf_call_eq ((nf_isPerson a2).2 (by omega)))).trans (if_neg (by decide))
    replace e1 := e1.trans (if_neg z4)
    by_cases o4 : a4 = 1
    · exact ((e1.trans (if_neg (fun r => r o4))).trans (pf_call_eq ((nf_isPerson a2).2 (by omega)))).trans (if_neg (by decide))
    · exact e1.trans (if_pos o4)
  · exact (e1.trans (pf_call_eq ((nf_areLaws a1).2 cl))).trans (if_pos (by decide))
end MA5
