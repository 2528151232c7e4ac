/-! WEIGHTS: what is asked of a weighed trial, on both sides -/
def wq (V W : pm_M) : Prop := rq V W ∧ rp V W ∧ wb W ∧ (V 73 13 = 76 ∨ V 73 13 = 77)
theorem wq.fr {V W Z X : pm_M} (h : wq V W) (f : fC V Z) (g : fR W X) : wq Z X :=
  ⟨g.q (f.q h.1), g.p (f.p h.2.1), g.b h.2.2.1, by rw [f 73 13 (Or.inr ⟨rfl, Or.inl rfl⟩)]; exact h.2.2.2⟩
theorem wx.get {c : Nat} {n : Int} {V W : pm_M} (h : wx c n V W) : ∃ w : Nat, wc0 c w n V ∧ (1 ≤ n ∧ n ≤ 9) ∧ W 90 16 = n ∧ (∀ j : Nat, (j : Int) < n → V w j = W 112 j ∧ 0 ≤ W 112 j ∧ W 112 j ≤ 80000000) ∧ V 73 14 = W 90 51 ∧ 1 ≤ W 90 51 ∧ W 90 51 ≤ 720000000 ∧ V 73 1 = W 90 48 ∧ V 73 2 = W 90 49 := by
  obtain ⟨⟨⟨hc, h73, hcn, hwn, h13⟩, ⟨-, hb⟩, ⟨v1, v2, -⟩, -⟩, hj, t1, t2, t3⟩ := h
  obtain ⟨w, hw, ew⟩ : ∃ w : Nat, (w = 76 ∨ w = 77) ∧ V 73 13 = (w : Int) := by
    rcases h13 with q | q
    · exact ⟨76, Or.inl rfl, q⟩
    · exact ⟨77, Or.inr rfl, q⟩
  have b16 := hb.1
  rw [hwn] at b16
  rw [ew, Int.toNat_natCast] at hj
  have b := wk_S_b (g := W 112) (M := 80000000) (by decide) n.toNat (fun j hj' => (hj j (by omega)).2)
  exact ⟨w, ⟨hc, hw, h73, ew, hcn, by omega⟩, ⟨by omega, b16.2⟩, hwn, hj, t1, t3, by omega, v1, v2⟩
theorem of_val {V : pm_M} {p t : Int} (hp : 0 ≤ p ∧ p ≤ 1000000000000) (ht : 1 ≤ t) : F_X11_ofThousand p t V = (pm_w32 (pm_w64 (Int.tdiv (1000 * p) t)), V) := by
  have e := F_X11_ofThousand_eq p t V
  simp only [pf_let] at e
  rw [if_pos (pm_cmp_gt0.mpr (by omega)), pm_w64_id (x := p * 1000) ⟨by omega, by omega⟩, Int.mul_comm p 1000] at e
  exact e
theorem wx.chance {c : Nat} {n j : Int} {V W : pm_M} (h : wx c n V W) (hj : 0 ≤ j ∧ j < n) : ∃ y, F_X10_chanceOf j V = (y, V) ∧ F_X12_chanceOf j W = (y, W) := by
  obtain ⟨w, ⟨hc, hw, h0, h13, hn, hn0⟩, -, -, hW, t1, t2, t3, -, -⟩ := h.get
  obtain ⟨e1, e2, e3⟩ := hW j.toNat (by omega)
  refine ⟨pm_w32 (pm_w64 (Int.tdiv (1000 * W 112 j.toNat) (W 90 51))), ?_, ?_⟩
  · have e := F_X10_chanceOf_eq j V
    simp only [pf_let] at e
    rcases hw with rfl | rfl
    · have u : V 73 13 = 76 := h13
      rw [if_pos u, e1, t1] at e
      exact e.trans (pf_call_eq (of_val ⟨by omega, by omega⟩ t2))
    · have u : V 73 13 = 77 := h13
      rw [if_neg (by omega), e1, t1] at e
      exact e.trans (pf_call_eq (of_val ⟨by omega, by omega⟩ t2))
  · have e := F_X12_chanceOf_eq j W
    simp only [pf_let] at e
    exact e
/-- the kinds -/
def kk (v f j : Int) : Int := if ¬ (v = f) then (if ¬ (j = v) then (if ¬ (j = f) then 3 else 2) else 1) else (if ¬ (j = v) then 3 else 0)
theorem kk_C (v f j : Int) (V : pm_M) : F_X11_kindOfSaid v f j V = (kk v f j, V) := by
  rw [F_X11_kindOfSaid_eq]
  unfold kk
  repeat' split
  all_goals rfl
theorem kk_R (j : Int) (W : pm_M) : F_X12_kindOf j W = (kk (W 90 48) (W 90 49) j, W) := by
  have e := F_X12_kindOf_eq j W
  simp only [pf_let] at e
  rw [e]
  unfold kk
  repeat' split
  all_goals rfl
theorem wf_kind {d : Int × pm_M} {n : Int} {G : Nat → Int} {V : pm_M} {q : Int → Int} {B : Int × Int → (Int × Int) ⊕ (Int × pm_M)} (hn : 0 ≤ n ∧ n ≤ 9) (hG : ∀ j : Nat, (j : Int) < n → 0 ≤ G j ∧ G j ≤ 80000000) (hB : ∀ x1 x3 : Int, 0 ≤ x3 → 0 ≤ x1 ∧ x1 ≤ 720000000 → (n ≤ x3 → B (x1, x3) = .inr (q x1, V)) ∧ (x3 < n → B (x1, x3) = .inl (x1 + G x3.toNat, x3 + 1))) : pf_val d B (0, 0) = (q (wk_S G n.toNat), V) := by
  refine pf_val_ind2 (d := d) (b := B) (fun s => 0 ≤ s.2 ∧ s.2 ≤ n ∧ s.1 = wk_S G s.2.toNat) (fun o => o = (q (wk_S G n.toNat), V)) (fun s => (n - s.2).toNat) ?_ (0, 0) ⟨Int.le_refl _, hn.1, rfl⟩
  rintro ⟨x1, x3⟩ ⟨p0, p1, p2⟩
  dsimp only at p0 p1 p2
  have b := wk_S_b (g := G) (M := 80000000) (by decide) x3.toNat (fun j hj => hG j (by omega))
  rw [← p2] at b
  obtain ⟨b1, b2⟩ := hB x1 x3 p0 ⟨b.1, by omega⟩
  by_cases c : n ≤ x3
  · have hx : x3 = n := by omega
    subst hx
    exact Or.inr ⟨_, b1 c, by rw [p2]⟩
  · refine Or.inl ⟨_, b2 (by omega), ⟨by dsimp only; omega, by dsimp only; omega, ?_⟩, by dsimp only; omega⟩
    dsimp only
    rw [p2, show (x3 + 1).toNat = x3.toNat + 1 by omega]
    rfl
theorem wx.kind {c : Nat} {n : Int} {V W : pm_M} (h : wx c n V W) (k : Int) : ∃ y, F_X10_chanceOfKind k V = (y, V) ∧ F_X12_chanceOfKind k W = (y, W) := by
  obtain ⟨w, ⟨hc, hw, h0, h13, hn, hn0⟩, ⟨hn1, hn9⟩, w16, hW, t1, t2, t3, v1, v2⟩ := h.get
  obtain ⟨G, hG⟩ : ∃ G : Nat → Int, G = fun j : Nat => if kk (W 90 48) (W 90 49) (j : Int) = k then W 112 j else 0 := ⟨_, rfl⟩
  have bG : ∀ j : Nat, (j : Int) < n → 0 ≤ G j ∧ G j ≤ 80000000 := fun j hj => by
    rw [hG]
    dsimp only
    split
    · exact (hW j hj).2
    · exact ⟨by decide, by decide⟩
  have G1 : ∀ x : Int, 0 ≤ x → kk (W 90 48) (W 90 49) x = k → G x.toNat = W 112 x.toNat := fun x hx q => by
    rw [hG]
    dsimp only
    rw [Int.toNat_of_nonneg hx, if_pos q]
  have G0 : ∀ x : Int, 0 ≤ x → ¬ kk (W 90 48) (W 90 49) x = k → G x.toNat = 0 := fun x hx q => by
    rw [hG]
    dsimp only
    rw [Int.toNat_of_nonneg hx, if_neg q]
  refine ⟨pm_w32 (pm_w64 (Int.tdiv (1000 * wk_S G n.toNat) (W 90 51))), ?_, ?_⟩
  · have e := F_X10_chanceOfKind_eq k V
    simp only [pf_let] at e
    obtain ⟨B, hB, e⟩ := pf_loop e
    rw [e]
    refine wf_kind (q := fun x => pm_w32 (pm_w64 (Int.tdiv (1000 * x) (W 90 51)))) ⟨hn0, hn9⟩ bG (fun x1 x3 a0 a1 => ?_)
    have q := congrFun hB (x1, x3)
    dsimp only at q
    simp only [kk_C, pf_call, v1, v2, t1] at q
    have key : ∀ (m : Nat), V m x3.toNat = W 112 x3.toNat ∨ ¬ x3 < n → (n ≤ x3 → B (x1, x3) = .inr ((F_X11_ofThousand x1 (W 90 51) V).1, V)) → (x3 < n → B (x1, x3) = if ¬ (kk (W 90 48) (W 90 49) x3 = k) then .inl (x1, x3 + 1) else .inl (pm_w64 (x1 + V m x3.toNat), x3 + 1)) → (n ≤ x3 → B (x1, x3) = .inr (pm_w32 (pm_w64 (Int.tdiv (1000 * x1) (W 90 51))), V)) ∧ (x3 < n → B (x1, x3) = .inl (x1 + G x3.toNat, x3 + 1)) := by
      intro m hm r1 r2
      refine ⟨fun c1 => ?_, fun c1 => ?_⟩
      · have r3 := r1 c1
        rw [of_val ⟨by omega, by omega⟩ t2] at r3
        exact r3
      · have r3 := r2 c1
        have hm2 : V m x3.toNat = W 112 x3.toNat := hm.resolve_right (fun z => z c1)
        by_cases ck : kk (W 90 48) (W 90 49) x3 = k
        · have bx := (hW x3.toNat (by omega)).2
          rw [if_neg (fun z => z ck), hm2, pm_w64_id ⟨by omega, by omega⟩] at r3
          rw [G1 x3 a0 ck]
          exact r3
        · rw [if_pos ck] at r3
          rw [G0 x3 a0 ck, Int.add_zero]
          exact r3
    rcases hc with rfl | rfl
    · have u0 : V 73 0 = 45 := h0
      rw [if_pos u0] at q
      rcases hw with rfl | rfl
      · have u : V 73 13 = 76 := h13
        exact key 76 (by by_cases z : x3 < n; exact Or.inl (hW x3.toNat (by omega)).1; exact Or.inr z) (fun c1 => by rw [if_pos (show V 45 0 ≤ x3 by omega)] at q; exact q) (fun c1 => by rw [if_neg (show ¬ V 45 0 ≤ x3 by omega), if_pos u] at q; exact q)
      · have u : V 73 13 = 77 := h13
        exact key 77 (by by_cases z : x3 < n; exact Or.inl (hW x3.toNat (by omega)).1; exact Or.inr z) (fun c1 => by rw [if_pos (show V 45 0 ≤ x3 by omega)] at q; exact q) (fun c1 => by rw [if_neg (show ¬ V 45 0 ≤ x3 by omega), if_neg (show ¬ V 73 13 = 76 by omega)] at q; exact q)
    · have u0 : V 73 0 = 51 := h0
      rw [if_neg (show ¬ V 73 0 = 45 by omega)] at q
      rcases hw with rfl | rfl
      · have u : V 73 13 = 76 := h13
        exact key 76 (by by_cases z : x3 < n; exact Or.inl (hW x3.toNat (by omega)).1; exact Or.inr z) (fun c1 => by rw [if_pos (show V 51 0 ≤ x3 by omega)] at q; exact q) (fun c1 => by rw [if_neg (show ¬ V 51 0 ≤ x3 by omega), if_pos u] at q; exact q)
      · have u : V 73 13 = 77 := h13
        exact key 77 (by by_cases z : x3 < n; exact Or.inl (hW x3.toNat (by omega)).1; exact Or.inr z) (fun c1 => by rw [if_pos (show V 51 0 ≤ x3 by omega)] at q; exact q) (fun c1 => by rw [if_neg (show ¬ V 51 0 ≤ x3 by omega), if_neg (show ¬ V 73 13 = 76 by omega)] at q; exact q)
  · have e := F_X12_chanceOfKind_eq k W
    simp only [pf_let] at e
    obtain ⟨B, hB, e⟩ := pf_loop e
    rw [e]
    refine wf_kind (q := fun x => pm_w32 (pm_w64 (Int.tdiv (1000 * x) (W 90 51)))) ⟨hn0, hn9⟩ bG (fun x1 x3 a0 a1 => ?_)
    have q := congrFun hB (x1, x3)
    dsimp only at q
    simp only [kk_R, pf_call] at q
    refine ⟨fun c1 => ?_, fun c1 => ?_⟩
    · rw [if_pos (show W 90 16 ≤ x3 by omega), pm_w64_id (x := 1000 * x1) ⟨by omega, by omega⟩] at q
      exact q
    · rw [if_neg (show ¬ W 90 16 ≤ x3 by omega)] at q
      by_cases ck : kk (W 90 48) (W 90 49) x3 = k
      · have bx := (hW x3.toNat (by omega)).2
        rw [if_neg (fun z => z ck), pm_w64_id ⟨by omega, by omega⟩] at q
        rw [G1 x3 a0 ck]
        exact q
      · rw [if_pos ck] at q
        rw [G0 x3 a0 ck]
        exact q
/-- the most likely -/
theorem rw_ml {n : Int} {W : pm_M} (hn : W 90 16 = n) (hn1 : 1 ≤ n) : F_X12_likeliest W = (((wk_ml (W 112) (n - 1).toNat : Nat) : Int), W) := by
  have e := F_X12_likeliest_eq W
  simp only [pf_let] at e
  obtain ⟨B, hB, e⟩ := pf_loop e
  rw [e]
  refine wf_ml hn1 (fun x1 x3 a0 a1 a2 => ?_)
  have q := congrFun hB (x1, x3)
  dsimp only at q
  refine ⟨fun c1 => by rw [if_pos (show W 90 16 ≤ x3 by omega)] at q; exact q, fun c1 => ?_⟩
  rw [if_neg (show ¬ W 90 16 ≤ x3 by omega)] at q
  by_cases c2 : W 112 x3.toNat ≤ W 112 x1.toNat
  · rw [if_pos (pm_cmp_le0.mpr c2)] at q
    rw [if_pos c2]
    exact q
  · rw [if_neg (fun r => c2 (pm_cmp_le0.mp r))] at q
    rw [if_neg c2]
    exact q
theorem wx.ml {c : Nat} {n : Int} {V W : pm_M} (h : wx c n V W) : ∃ y, F_X10_mostLikely V = (y, V) ∧ F_X12_likeliest W = (y, W) ∧ 0 ≤ y ∧ y < n := by
  obtain ⟨w, hc0, ⟨hn1, hn9⟩, w16, hW, -⟩ := h.get
  have l := wk_ml_le (W 112) (n - 1).toNat
  refine ⟨((wk_ml (W 112) (n - 1).toNat : Nat) : Int), ?_, rw_ml w16 hn1, by omega, by omega⟩
  rw [cw_ml hc0 hn1, wk_ml_eq (h := W 112) (n - 1).toNat (fun j hj => (hW j (by omega)).1)]
/-- noticed -/
theorem wr.noticed {c : Nat} {n : Int} {V W : pm_M} (h : wr c n V W) : ∃ y, F_X10_chanceNoticed V = (y, V) ∧ F_X12_noticedNow W = (y, W) := by
  obtain ⟨⟨hc, h73, hcn, hwn, h13⟩, ⟨-, hb⟩, -, -, ⟨t1, t2, t3⟩, ⟨a1, a2, a3, a4, a5, a6, a7, a8⟩, hj⟩ := h
  have b16 := hb.1
  rw [hwn] at b16
  have bA := wk_S_b (g := W 110) (M := 1539) (by decide) n.toNat (fun j hj' => ⟨(hj j (by omega)).2.2.1, (hj j (by omega)).2.2.2.1⟩)
  have bF := wk_S_b (g := W 111) (M := 171) (by decide) n.toNat (fun j hj' => ⟨(hj j (by omega)).2.2.2.2.1, (hj j (by omega)).2.2.2.2.2⟩)
  have bJ := wk_S_b (g := fun j => W 110 j * W 111 j) (M := 263169) (by decide) n.toNat (fun j hj' => pm_mulb (hj j (by omega)).2.2.1 (hj j (by omega)).2.2.2.2.1 (hj j (by omega)).2.2.2.1 (hj j (by omega)).2.2.2.2.2 (by decide))
  rw [← a4] at bA
  rw [← a5] at bF
  rw [← a6] at bJ
  obtain ⟨t, ht⟩ : ∃ t, W 90 47 = t := ⟨_, rfl⟩
  obtain ⟨A, hA⟩ : ∃ A, W 90 44 = A := ⟨_, rfl⟩
  obtain ⟨F, hF⟩ : ∃ F, W 90 45 = F := ⟨_, rfl⟩
  obtain ⟨J, hJ⟩ : ∃ J, W 90 46 = J := ⟨_, rfl⟩
  rw [ht] at t1 t2 t3
  rw [hA] at a1 bA
  rw [hF] at a2 bF
  rw [hJ] at a3 bJ
  obtain ⟨p, hp⟩ : ∃ p, t * n = p := ⟨_, rfl⟩
  obtain ⟨s, hs⟩ : ∃ s, (16 - t) * A = s := ⟨_, rfl⟩
  have bp : 0 ≤ p ∧ p ≤ 144 := by
    rw [← hp]
    exact pm_mulb t2 (by omega) t3 b16.2 (by decide)
  have bs : 0 ≤ s ∧ s ≤ 221616 := by
    rw [← hs]
    exact pm_mulb (by omega) bA.1 (show 16 - t ≤ 16 by omega) (show A ≤ 13851 by omega) (by decide)
  obtain ⟨u, hu⟩ : ∃ u, p * J = u := ⟨_, rfl⟩
  obtain ⟨v, hv⟩ : ∃ v, s * F = v := ⟨_, rfl⟩
  have bu : 0 ≤ u ∧ u ≤ 341067024 := by
    rw [← hu]
    exact pm_mulb bp.1 bJ.1 bp.2 (show J ≤ 2368521 by omega) (by decide)
  have bv : 0 ≤ v ∧ v ≤ 341067024 := by
    rw [← hv]
    exact pm_mulb bs.1 bF.1 bs.2 (show F ≤ 1539 by omega) (by decide)
  have W1 : pm_w64 p = p := pm_w64_id ⟨by omega, by omega⟩
  have W2 : pm_w64 (16 - t) = 16 - t := pm_w64_id ⟨by omega, by omega⟩
  have W3 : pm_w64 s = s := pm_w64_id ⟨by omega, by omega⟩
  have W4 : pm_w64 u = u := pm_w64_id ⟨by omega, by omega⟩
  have W5 : pm_w64 v = v := pm_w64_id ⟨by omega, by omega⟩
  have W6 : pm_w64 (u + v) = u + v := pm_w64_id ⟨by omega, by omega⟩
  have e := F_X10_chanceNoticed_eq V
  simp only [pf_let] at e
  have e2 := F_X12_noticedNow_eq W
  simp only [pf_let] at e2
  rw [ht, hA, hF, hJ, hwn, hs, hp, hv, hu] at e2
  have e3 : F_X10_chanceNoticed V = (if ¬ (pm_cmp (u + v) 0 = 0) then pf_call (F_X11_ofThousand v (u + v) V) fun y _ => (y, V) else ((1000 : Int), V)) := by
    rcases hc with rfl | rfl
    · have k0 : V 73 0 = 45 := h73
      rw [if_pos k0, t1, a1, a2, a3, hcn, hp, W1, W2, hs, W3, hu, W4, hv, W5, W6] at e
      exact e
    · have k0 : V 73 0 = 51 := h73
      rw [if_neg (by omega), t1, a1, a2, a3, hcn, hp, W1, W2, hs, W3, hu, W4, hv, W5, W6] at e
      exact e
  by_cases z : u + v = 0
  · refine ⟨1000, ?_, ?_⟩
    · rw [e3, if_neg (show ¬ ¬ pm_cmp (u + v) 0 = 0 from fun q => q (pm_cmp_eq0.mpr z))]
    · rw [e2, if_neg (show ¬ ¬ pm_cmp (v + u) 0 = 0 from fun q => q (pm_cmp_eq0.mpr (by omega)))]
  · refine ⟨pm_w32 (pm_w64 (Int.tdiv (1000 * v) (u + v))), ?_, ?_⟩
    · rw [e3, if_pos (show ¬ pm_cmp (u + v) 0 = 0 from fun q => z (pm_cmp_eq0.mp q))]
      exact pf_call_eq (of_val ⟨by omega, by omega⟩ (by omega))
    · rw [e2, if_pos (show ¬ pm_cmp (v + u) 0 = 0 from fun q => z (by have := pm_cmp_eq0.mp q; omega)), Int.add_comm v u]
