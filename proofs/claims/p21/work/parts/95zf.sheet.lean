/-! THE SHEET OF ANSWERS, asked on both sides -/
def rl (W : pm_M) : Prop := ∀ k : Nat, (k : Int) < W 90 25 → (0 ≤ W 101 (5 * k) ∧ W 101 (5 * k) / 100 < W 90 23 ∧ W 101 (5 * k) / 10 % 10 < W 90 16 ∧ W 101 (5 * k) % 10 < W 90 16) ∧ (0 ≤ W 101 (5 * k + 1) ∧ W 101 (5 * k + 1) ≤ 99) ∧ (-99 ≤ W 101 (5 * k + 2) ∧ W 101 (5 * k + 2) ≤ 99) ∧ (0 ≤ W 101 (5 * k + 4) ∧ W 101 (5 * k + 4) ≤ 1)
theorem rl_of {W : pm_M} (hB : pm_oq pm_qB W) (h3 : pm_h3 W) (hn : rn W) : rl W := by
  intro k hk
  have b25 := hB.get 90 25 (lo := 0) (hi := 60) (t := 0) (by decide) (by decide) rfl
  have q := h3 (k : Int) (by omega) hk
  rw [show (5 * (k : Int)).toNat = 5 * k by omega] at q
  have r0 := hB.get1 101 (5 * k) (lo := 0) (hi := 999) (by decide) (show _ < 300 by omega) ((pm_qe_r (tb := pm_qB) (k := 101) (i := 5 * k) (m := 5) (r := 0) (l := [(0, 999, 1), (0, 99, 0), (-99, 99, 0), (0, 8, 0), (0, 1, 0)]) rfl rfl (by omega)).trans rfl)
  have r1 := hB.get 101 (5 * k + 1) (lo := 0) (hi := 99) (t := 0) (by decide) (show _ < 300 by omega) ((pm_qe_r (tb := pm_qB) (k := 101) (i := 5 * k + 1) (m := 5) (r := 1) (l := [(0, 999, 1), (0, 99, 0), (-99, 99, 0), (0, 8, 0), (0, 1, 0)]) rfl rfl (by omega)).trans rfl)
  have r2 := hB.get 101 (5 * k + 2) (lo := -99) (hi := 99) (t := 0) (by decide) (show _ < 300 by omega) ((pm_qe_r (tb := pm_qB) (k := 101) (i := 5 * k + 2) (m := 5) (r := 2) (l := [(0, 999, 1), (0, 99, 0), (-99, 99, 0), (0, 8, 0), (0, 1, 0)]) rfl rfl (by omega)).trans rfl)
  have r4 := hB.get 101 (5 * k + 4) (lo := 0) (hi := 1) (t := 0) (by decide) (show _ < 300 by omega) ((pm_qe_r (tb := pm_qB) (k := 101) (i := 5 * k + 4) (m := 5) (r := 4) (l := [(0, 999, 1), (0, 99, 0), (-99, 99, 0), (0, 8, 0), (0, 1, 0)]) rfl rfl (by omega)).trans rfl)
  exact ⟨⟨r0.1, hn.1 k hk, q.2.1, q.1⟩, r1, r2, r4⟩
theorem rl.fr {W X : pm_M} (h : rl W) (f : fR W X) : rl X := by
  have c101 := f.1 101 (by decide) (by decide) (by decide) (by decide)
  unfold rl at h ⊢
  rw [c101, f.2 25 (by omega), f.2 23 (by omega), f.2 16 (by omega)]
  exact h
/-- the reference works an answer out -/
theorem wa_R {W : pm_M} (hb : wb W) (hr : rl W) {k : Int} (hk : 0 ≤ k ∧ k < W 90 25) : ∃ X, F_X12_worksAnswer k W = (0, X) ∧ fR W X ∧ X 90 48 = W 101 (5 * k.toNat) / 10 % 10 ∧ X 90 49 = W 101 (5 * k.toNat) % 10 := by
  obtain ⟨⟨h1, h2, h3, h4⟩, h5, h6, -⟩ := hr k.toNat (by omega)
  have i0 : (5 * k).toNat = 5 * k.toNat := by omega
  have i1 : ((5 * k) + 1).toNat = 5 * k.toNat + 1 := by omega
  have i2 : ((5 * k) + 2).toNat = 5 * k.toNat + 2 := by omega
  have e := (F_X12_worksAnswer_eq k W).trans (pf_let_eq rfl)
  rw [i0, i1, i2] at e
  replace e := ((e.trans (pf_let_eq rfl)).trans (pf_let_eq rfl)).trans (pf_let_eq rfl)
  obtain ⟨z, X, hX⟩ : ∃ z X, F_X12_works (W 101 (5 * k.toNat)) (W 101 (5 * k.toNat + 1)) (W 101 (5 * k.toNat + 2)) W = (z, X) := ⟨_, _, rfl⟩
  replace e := ((e.trans (pf_call_eq hX)).trans (pf_let_eq rfl)).trans (pf_let_eq rfl)
  obtain ⟨p, sv, sf, tr, g, r, -, -, -, -, -, -, -, -, w48, w49, -, -, -, -, -, -, -, fw⟩ := rw_pose hb rfl h1 h2 h3 h4 h5 h6 hX
  exact ⟨X, e, fw, w48, w49⟩
theorem ka_C {V W : pm_M} (ha : ra V W) {k : Int} (hk : 0 ≤ k ∧ k < V 4 6) : F_X7_kindOfAnswer k V = (kk (W 101 (5 * k.toNat) / 10 % 10) (W 101 (5 * k.toNat) % 10) (W 101 (5 * k.toNat + 3)), V) := by
  have q0 := ha.1 k.toNat 0 (by omega) (by decide)
  have q3 := ha.1 k.toNat 3 (by omega) (by decide)
  rw [Nat.zero_add] at q0 q3
  have e := ((F_X7_kindOfAnswer_eq k V).trans (pf_let_eq q0)).trans (pf_let_eq q3)
  exact e.trans (pf_call_eq (kk_C _ _ _ V))
theorem mB_of {V W : pm_M} (h : wq V W) (ha : ra V W) (hr : rl W) (a1 a2 : Int) : ∃ y V1 W1, F_X11_of a1 a2 V = (y, V1) ∧ F_X12_of a1 a2 W = (y, W1) ∧ True := by
  have h6 := h.1.2.2.2.2.2.1
  have e1 := F_X11_of_eq a1 a2 V
  have e2 := (F_X12_of_eq a1 a2 W).trans (pf_let_eq rfl)
  by_cases c1 : 0 ≤ a1 ∧ a1 < W 90 25
  · replace e1 := (e1.trans (pf_call_eq ((nf_isAnswer a1).1 (by rw [h6]; exact c1)))).trans (if_pos (by decide))
    replace e2 := (e2.trans (pf_call_eq ((nf_in a1 0 (W 90 25 - 1)).1 ⟨c1.1, by omega⟩))).trans (if_neg (by decide))
    by_cases c2 : 0 ≤ a2 ∧ a2 ≤ 5
    · replace e1 := e1.trans (if_neg (show ¬ (a2 < 0 ∨ 5 < a2) by omega))
      replace e2 := (e2.trans (pf_call_eq ((nf_in a2 0 5).1 c2))).trans (if_pos (by decide))
      have row : ∀ t : Nat, t < 5 → V (9 + t) a1.toNat = W 101 (5 * a1.toNat + t) := fun t ht => by
        have q := ha.1 a1.toNat t (by rw [h6]; omega) ht
        rw [Nat.zero_add] at q
        exact q
      rcases (show a2 = 0 ∨ a2 = 1 ∨ a2 = 2 ∨ a2 = 3 ∨ a2 = 4 ∨ a2 = 5 by omega) with q | q | q | q | q | q
      · replace e2 := e2.trans (if_neg (show ¬ 5 ≤ a2 by omega))
        rw [show ((5 * a1) + a2).toNat = 5 * a1.toNat + 0 by omega] at e2
        exact ⟨_, _, _, ((e1.trans (if_pos q)).trans (pf_let_eq (row 0 (by decide)))), e2.trans (pf_let_eq rfl), trivial⟩
      · replace e2 := e2.trans (if_neg (show ¬ 5 ≤ a2 by omega))
        rw [show ((5 * a1) + a2).toNat = 5 * a1.toNat + 1 by omega] at e2
        exact ⟨_, _, _, (((e1.trans (if_neg (show ¬ a2 = 0 by omega))).trans (if_pos q)).trans (pf_let_eq (row 1 (by decide)))), e2.trans (pf_let_eq rfl), trivial⟩
      · replace e2 := e2.trans (if_neg (show ¬ 5 ≤ a2 by omega))
        rw [show ((5 * a1) + a2).toNat = 5 * a1.toNat + 2 by omega] at e2
        exact ⟨_, _, _, ((((e1.trans (if_neg (show ¬ a2 = 0 by omega))).trans (if_neg (show ¬ a2 = 1 by omega))).trans (if_pos q)).trans (pf_let_eq (row 2 (by decide)))), e2.trans (pf_let_eq rfl), trivial⟩
      · replace e2 := e2.trans (if_neg (show ¬ 5 ≤ a2 by omega))
        rw [show ((5 * a1) + a2).toNat = 5 * a1.toNat + 3 by omega] at e2
        exact ⟨_, _, _, (((((e1.trans (if_neg (show ¬ a2 = 0 by omega))).trans (if_neg (show ¬ a2 = 1 by omega))).trans (if_neg (show ¬ a2 = 2 by omega))).trans (if_pos q)).trans (pf_let_eq (row 3 (by decide)))), e2.trans (pf_let_eq rfl), trivial⟩
      · replace e2 := e2.trans (if_neg (show ¬ 5 ≤ a2 by omega))
        rw [show ((5 * a1) + a2).toNat = 5 * a1.toNat + 4 by omega] at e2
        replace e1 := ((((((e1.trans (if_neg (show ¬ a2 = 0 by omega))).trans (if_neg (show ¬ a2 = 1 by omega))).trans (if_neg (show ¬ a2 = 2 by omega))).trans (if_neg (show ¬ a2 = 3 by omega))).trans (if_pos q)).trans (pf_let_eq (row 4 (by decide))))
        have b := (hr a1.toNat (by omega)).2.2.2
        replace e2 := e2.trans (pf_let_eq rfl)
        by_cases z : W 101 (5 * a1.toNat + 4) = 0
        · rw [z] at e2
          exact ⟨_, _, _, e1.trans (if_pos z), e2, trivial⟩
        · rw [show W 101 (5 * a1.toNat + 4) = 1 by omega] at e2
          exact ⟨_, _, _, e1.trans (if_neg z), e2, trivial⟩
      · replace e1 := (((((((e1.trans (if_neg (show ¬ a2 = 0 by omega))).trans (if_neg (show ¬ a2 = 1 by omega))).trans (if_neg (show ¬ a2 = 2 by omega))).trans (if_neg (show ¬ a2 = 3 by omega))).trans (if_neg (show ¬ a2 = 4 by omega))).trans (if_pos q))).trans (pf_call_eq (ka_C ha ⟨c1.1, by rw [h6]; exact c1.2⟩))
        obtain ⟨X, x1, x2, x3, x4⟩ := wa_R h.2.2.1 hr c1
        replace e2 := ((((e2.trans (if_pos (show 5 ≤ a2 by omega))).trans (pf_call_eq x1)).trans (pf_let_eq rfl)).trans (pf_let_eq rfl)).trans (pf_let_eq rfl)
        replace e2 := e2.trans (pf_call_eq (kk_R _ X))
        rw [x3, x4, x2.1 101 (by decide) (by decide) (by decide) (by decide), show ((5 * a1) + 3).toNat = 5 * a1.toNat + 3 by omega] at e2
        exact ⟨_, _, _, e1, e2, trivial⟩
    · exact ⟨_, _, _, e1.trans (if_pos (by omega)), (e2.trans (pf_call_eq ((nf_in a2 0 5).2 c2))).trans (if_neg (by decide)), trivial⟩
  · exact ⟨_, _, _, (e1.trans (pf_call_eq ((nf_isAnswer a1).2 (by rw [h6]; exact c1)))).trans (if_neg (by decide)), (e2.trans (pf_call_eq ((nf_in a1 0 (W 90 25 - 1)).2 (by omega)))).trans (if_pos (by decide)), trivial⟩
/-- of a land -/
def ofl (W : pm_M) (a : Int) (k : Nat) : Int := if a = -1 then 1 else if W 100 (4 * (W 101 (5 * k) / 100).toNat + 3) = a then 1 else 0
theorem ofl_b (W : pm_M) (a : Int) (k : Nat) : 0 ≤ ofl W a k ∧ ofl W a k ≤ 1 := by
  unfold ofl
  split
  · exact ⟨by decide, by decide⟩
  · split <;> exact ⟨by decide, by decide⟩
theorem ofl_fr {W X : pm_M} (f : fR W X) (a : Int) (k : Nat) : ofl X a k = ofl W a k := by
  unfold ofl
  rw [f.1 100 (by decide) (by decide) (by decide) (by decide), f.1 101 (by decide) (by decide) (by decide) (by decide)]
theorem ol_C {V W : pm_M} (hq : rq V W) (hp : rp V W) (ha : ra V W) (hr : rl W) (a : Int) {k : Int} (hk : 0 ≤ k ∧ k < V 4 6) : F_X11_isOfLand k a V = (ofl W a k.toNat, V) := by
  have h5 := hq.2.2.2.2.1
  have h6 := hq.2.2.2.2.2.1
  have q0 := ha.1 k.toNat 0 (by omega) (by decide)
  rw [Nat.zero_add] at q0
  have r := (hr k.toNat (by omega)).1
  have e := F_X11_isOfLand_eq k a V
  unfold ofl
  by_cases c : a = -1
  · rw [if_pos c]
    exact e.trans (if_pos c)
  · rw [if_neg c]
    replace e := (e.trans (if_neg c)).trans (pf_let_eq q0)
    have q8 := hp.1 (W 101 (5 * k.toNat) / 100).toNat 3 (by omega) (by decide)
    rw [Nat.zero_add] at q8
    replace e := e.trans (pf_let_eq q8)
    by_cases c2 : W 100 (4 * (W 101 (5 * k.toNat) / 100).toNat + 3) = a
    · rw [if_pos c2]
      exact e.trans (if_neg (fun s => s c2))
    · rw [if_neg c2]
      exact e.trans (if_pos c2)
theorem ol_R {W : pm_M} (hr : rl W) (a : Int) {k : Int} (hk : 0 ≤ k ∧ k < W 90 25) : F_X12_isOf k a W = (ofl W a k.toNat, W) := by
  have r := (hr k.toNat (by omega)).1
  have e := F_X12_isOf_eq k a W
  unfold ofl
  by_cases c : a = -1
  · rw [if_pos c]
    exact e.trans (if_pos c)
  · rw [if_neg c]
    have i0 : (5 * k).toNat = 5 * k.toNat := by omega
    rw [i0] at e
    replace e := (e.trans (if_neg c)).trans (pf_let_eq rfl)
    rw [show ((4 * (W 101 (5 * k.toNat) / 100)) + 3).toNat = 4 * (W 101 (5 * k.toNat) / 100).toNat + 3 by omega] at e
    replace e := e.trans (pf_let_eq rfl)
    by_cases c2 : W 100 (4 * (W 101 (5 * k.toNat) / 100).toNat + 3) = a
    · rw [if_pos c2]
      exact e.trans (if_neg (fun s => s c2))
    · rw [if_neg c2]
      exact e.trans (if_pos c2)
theorem wf_cnt {O : Type} {d : O} {n : Int} {G : Nat → Int} {fin : Int → O} {B : Int × Int → (Int × Int) ⊕ O} (hn : 0 ≤ n) (hB : ∀ x k : Int, 0 ≤ k → (n ≤ k → B (x, k) = .inr (fin x)) ∧ (k < n → B (x, k) = .inl (x + G k.toNat, k + 1))) : pf_val d B (0, 0) = fin (wk_S G n.toNat) := by
  refine pf_val_ind2 (d := d) (b := B) (fun s => 0 ≤ s.2 ∧ s.2 ≤ n ∧ s.1 = wk_S G s.2.toNat) (fun o => o = fin (wk_S G n.toNat)) (fun s => (n - s.2).toNat) ?_ (0, 0) ⟨Int.le_refl _, hn, rfl⟩
  rintro ⟨x1, x3⟩ ⟨p0, p1, p2⟩
  dsimp only at p0 p1 p2
  obtain ⟨b1, b2⟩ := hB x1 x3 p0
  by_cases c : n ≤ x3
  · have hx : x3 = n := by omega
    subst hx
    exact Or.inr ⟨_, b1 c, by rw [p2]⟩
  · refine Or.inl ⟨_, b2 (by omega), ⟨by dsimp only; omega, by dsimp only; omega, ?_⟩, by dsimp only; omega⟩
    dsimp only
    rw [p2, show (x3 + 1).toNat = x3.toNat + 1 by omega]
    rfl
theorem cl_C {V W : pm_M} (hq : rq V W) (hp : rp V W) (ha : ra V W) (hr : rl W) (hn0 : 0 ≤ V 4 6) (a : Int) : F_X11_countOfLand a V = (wk_S (ofl W a) (V 4 6).toNat, V) := by
  have e := F_X11_countOfLand_eq a V
  obtain ⟨B, hB, e⟩ := pf_loop e
  rw [e]
  refine wf_cnt (fin := fun x => (x, V)) hn0 (fun x k k0 => ?_)
  have q := (congrFun hB (x, k)).trans (pf_let_eq rfl)
  refine ⟨fun z => q.trans (if_pos z), fun z => ?_⟩
  replace q := (q.trans (if_neg (show ¬ V 4 6 ≤ k by omega))).trans (pf_call_eq (ol_C hq hp ha hr a ⟨k0, z⟩))
  have b := ofl_b W a k.toNat
  by_cases g : ofl W a k.toNat = 0
  · rw [g, Int.add_zero]
    exact (q.trans (if_pos g)).trans (pf_let_eq rfl)
  · rw [show ofl W a k.toNat = 1 by omega]
    exact ((q.trans (if_neg g)).trans (pf_let_eq rfl)).trans (pf_let_eq rfl)
theorem nf_isLandOrAll {V : pm_M} (a1 : Int) : (-1 ≤ a1 ∧ a1 ≤ 3 → F_X11_isLandOrAll a1 V = (1, V)) ∧ (¬ (-1 ≤ a1 ∧ a1 ≤ 3) → F_X11_isLandOrAll a1 V = (0, V)) := by
  have e := F_X11_isLandOrAll_eq a1 V
  refine ⟨fun q => (e.trans (if_neg (by omega))).trans (if_neg (by omega)), fun q => ?_⟩
  by_cases c : a1 < -1
  · exact e.trans (if_pos c)
  · exact (e.trans (if_neg c)).trans (if_pos (by omega))
/-- what a share counts -/
def shk (W : pm_M) (b : Int) (k : Nat) : Int := if b = 4 then W 101 (5 * k + 4) else if kk (W 101 (5 * k) / 10 % 10) (W 101 (5 * k) % 10) (W 101 (5 * k + 3)) = b then 1 else 0
def shf (W : pm_M) (a b : Int) (k : Nat) : Int := if ofl W a k = 0 then 0 else shk W b k
theorem shk_fr {W X : pm_M} (f : fR W X) (b : Int) (k : Nat) : shk X b k = shk W b k := by
  unfold shk
  rw [f.1 101 (by decide) (by decide) (by decide) (by decide)]
/-- the reference's loop of a share -/
theorem sh_R {W : pm_M} (hb : wb W) (hr : rl W) {a b N : Int} (hN : W 90 25 = N) (h0 : 0 ≤ N) {d : Int × pm_M} {C : Int × Int × Int × pm_M → (Int × Int × Int × pm_M) ⊕ (Int × pm_M)} (hC : ∀ (x y k : Int) (T : pm_M), C (x, y, k, T) = pf_let (T 90 25) fun y35 => (if y35 ≤ k then (if ¬ (x = 0) then (pf_let ((1000 * y) / x) fun y40 => (.inr (y40, T))) else (.inr (-1, T))) else (pf_call (F_X12_isOf k a T) fun y45 _ => (if ¬ (y45 = 0) then (pf_let (x + 1) fun x49 => pf_call (F_X12_worksAnswer k T) fun _ V52 => pf_let (V52 90 42) fun _ => pf_let (V52 90 43) fun _ => (if ¬ (b = 4) then (pf_let (V52 101 ((5 * k) + 3).toNat) fun y71 => pf_call (F_X12_kindOf y71 V52) fun y77 _ => (if ¬ (y77 = b) then (pf_let (k + 1) fun x81 => (.inl (x49, (y + 0), x81, V52))) else (pf_let (k + 1) fun x83 => (.inl (x49, (y + 1), x83, V52))))) else (pf_let (V52 101 ((5 * k) + 4).toNat) fun y86 => (if ¬ (y86 = 1) then (pf_let (k + 1) fun x90 => (.inl (x49, (y + 0), x90, V52))) else (pf_let (k + 1) fun x92 => (.inl (x49, (y + 1), x92, V52))))))) else (pf_let (k + 1) fun x94 => (.inl (x, y, x94, T))))))) : (pf_val d C (0, 0, 0, W)).1 = if wk_S (ofl W a) N.toNat = 0 then -1 else (1000 * wk_S (shf W a b) N.toNat) / wk_S (ofl W a) N.toNat := by
  refine pf_val_ind2 (d := d) (b := C) (fun s => 0 ≤ s.2.2.1 ∧ s.2.2.1 ≤ N ∧ s.1 = wk_S (ofl W a) s.2.2.1.toNat ∧ s.2.1 = wk_S (shf W a b) s.2.2.1.toNat ∧ fR W s.2.2.2) (fun o => o.1 = if wk_S (ofl W a) N.toNat = 0 then -1 else (1000 * wk_S (shf W a b) N.toNat) / wk_S (ofl W a) N.toNat) (fun s => (N - s.2.2.1).toNat) ?_ (0, 0, 0, W) ⟨Int.le_refl _, h0, rfl, rfl, fR.rf⟩
  rintro ⟨x, y, k, T⟩ ⟨p0, p1, p2, p3, p4⟩
  dsimp only at p0 p1 p2 p3 p4
  have t25 : T 90 25 = N := (p4.2 25 (by omega)).trans hN
  have q := (hC x y k T).trans (pf_let_eq t25)
  by_cases c : N ≤ k
  · have ek : k = N := by omega
    subst ek
    replace q := q.trans (if_pos c)
    by_cases z : x = 0
    · refine Or.inr ⟨_, q.trans (if_neg (fun s => s z)), ?_⟩
      rw [← p2, if_pos z]
    · refine Or.inr ⟨_, (q.trans (if_pos z)).trans (pf_let_eq rfl), ?_⟩
      rw [← p2, ← p3, if_neg z]
  · have x1 : (k + 1).toNat = k.toNat + 1 := by omega
    replace q := (q.trans (if_neg c)).trans (pf_call_eq (ol_R (hr.fr p4) a ⟨p0, by rw [t25]; omega⟩))
    rw [ofl_fr p4] at q
    have bo := ofl_b W a k.toNat
    by_cases g : ofl W a k.toNat = 0
    · refine Or.inl ⟨_, (q.trans (if_neg (fun s => s g))).trans (pf_let_eq rfl), ⟨by dsimp only; omega, by dsimp only; omega, ?_, ?_, p4⟩, by dsimp only; omega⟩
      · dsimp only
        rw [x1, p2]
        show wk_S (ofl W a) k.toNat = wk_S (ofl W a) k.toNat + ofl W a k.toNat
        rw [g, Int.add_zero]
      · dsimp only
        rw [x1, p3]
        show wk_S (shf W a b) k.toNat = wk_S (shf W a b) k.toNat + shf W a b k.toNat
        unfold shf
        rw [if_pos g, Int.add_zero]
    · obtain ⟨X, w1, w2, w3, w4⟩ := wa_R (fR.b hb p4) (hr.fr p4) (k := k) ⟨p0, by rw [t25]; omega⟩
      have fX := p4.tr w2
      have c101 := p4.1 101 (by decide) (by decide) (by decide) (by decide)
      have d101 := fX.1 101 (by decide) (by decide) (by decide) (by decide)
      replace q := ((((q.trans (if_pos g)).trans (pf_let_eq rfl)).trans (pf_call_eq w1)).trans (pf_let_eq rfl)).trans (pf_let_eq rfl)
      have fin : ∀ v : Int, v = shk W b k.toNat → C (x, y, k, T) = .inl (x + 1, y + v, k + 1, X) → (∃ s1, C (x, y, k, T) = .inl s1 ∧ (0 ≤ s1.2.2.1 ∧ s1.2.2.1 ≤ N ∧ s1.1 = wk_S (ofl W a) s1.2.2.1.toNat ∧ s1.2.1 = wk_S (shf W a b) s1.2.2.1.toNat ∧ fR W s1.2.2.2) ∧ (N - s1.2.2.1).toNat < (N - k).toNat) := by
        intro v hv r
        refine ⟨_, r, ⟨by dsimp only; omega, by dsimp only; omega, ?_, ?_, fX⟩, by dsimp only; omega⟩
        · dsimp only
          rw [x1, p2]
          show wk_S (ofl W a) k.toNat + 1 = wk_S (ofl W a) k.toNat + ofl W a k.toNat
          omega
        · dsimp only
          rw [x1, p3, hv]
          show wk_S (shf W a b) k.toNat + shk W b k.toNat = wk_S (shf W a b) k.toNat + shf W a b k.toNat
          unfold shf
          rw [if_neg g]
      by_cases c4 : b = 4
      · replace q := q.trans (if_neg (fun s => s c4))
        rw [d101, show ((5 * k) + 4).toNat = 5 * k.toNat + 4 by omega] at q
        replace q := q.trans (pf_let_eq rfl)
        have b4 := (hr k.toNat (by rw [hN]; omega)).2.2.2
        by_cases z : W 101 (5 * k.toNat + 4) = 1
        · exact Or.inl (fin 1 (by unfold shk; rw [if_pos c4]; exact z.symm) ((q.trans (if_neg (fun s => s z))).trans (pf_let_eq rfl)))
        · exact Or.inl (fin 0 (by unfold shk; rw [if_pos c4]; omega) ((q.trans (if_pos z)).trans (pf_let_eq rfl)))
      · replace q := q.trans (if_pos c4)
        rw [d101, show ((5 * k) + 3).toNat = 5 * k.toNat + 3 by omega] at q
        replace q := (q.trans (pf_let_eq rfl)).trans (pf_call_eq (kk_R _ X))
        rw [w3, w4, c101] at q
        by_cases z : kk (W 101 (5 * k.toNat) / 10 % 10) (W 101 (5 * k.toNat) % 10) (W 101 (5 * k.toNat + 3)) = b
        · exact Or.inl (fin 1 (by unfold shk; rw [if_neg c4, if_pos z]) ((q.trans (if_neg (fun s => s z))).trans (pf_let_eq rfl)))
        · exact Or.inl (fin 0 (by unfold shk; rw [if_neg c4, if_neg z]) ((q.trans (if_pos z)).trans (pf_let_eq rfl)))
theorem mB_share {V W : pm_M} (h : wq V W) (ha : ra V W) (hr : rl W) (hn0 : 0 ≤ V 4 6) (a1 a2 : Int) : ∃ y V1 W1, F_X11_share a1 a2 V = (y, V1) ∧ F_X12_share a1 a2 W = (y, W1) ∧ True := by
  have h6 := h.1.2.2.2.2.2.1
  obtain ⟨N, hN⟩ : ∃ N, V 4 6 = N := ⟨_, rfl⟩
  have hWN : W 90 25 = N := h6.symm.trans hN
  have e1 := F_X11_share_eq a1 a2 V
  have e2 := F_X12_share_eq a1 a2 W
  by_cases c1 : -1 ≤ a1 ∧ a1 ≤ 3
  · replace e1 := (e1.trans (pf_call_eq ((nf_isLandOrAll a1).1 c1))).trans (if_neg (by decide))
    replace e2 := (e2.trans (pf_call_eq ((nf_in a1 (-1) 3).1 c1))).trans (if_neg (by decide))
    have cnt := cl_C h.1 h.2.1 ha hr hn0 a1
    rw [hN] at cnt hn0
    have L0 := (wk_S_b (g := ofl W a1) (M := 1) (by decide) N.toNat (fun j _ => ofl_b W a1 j)).1
    by_cases c2 : 0 ≤ a2 ∧ a2 ≤ 4
    · replace e2 := (e2.trans (pf_call_eq ((nf_in a2 0 4).1 c2))).trans (if_pos (by decide))
      obtain ⟨C, hC, e2⟩ := pf_loop e2
      have R := sh_R h.2.2.1 hr (a := a1) (b := a2) hWN hn0 (d := ((0 : Int), W)) (C := C) (fun x y k T => congrFun hC (x, y, k, T))
      rw [← e2] at R
      have fin : ∀ v : Int, F_X11_share a1 a2 V = (v, V) → v = (if wk_S (ofl W a1) N.toNat = 0 then -1 else (1000 * wk_S (shf W a1 a2) N.toNat) / wk_S (ofl W a1) N.toNat) → ∃ y V1 W1, F_X11_share a1 a2 V = (y, V1) ∧ F_X12_share a1 a2 W = (y, W1) ∧ True := fun v r1 r2 => ⟨v, V, (F_X12_share a1 a2 W).2, r1, Prod.ext (R.trans r2.symm) rfl, trivial⟩
      by_cases c3 : a2 ≤ 3
      · replace e1 := ((e1.trans (pf_call_eq ((nf_isKind a2).1 ⟨c2.1, c3⟩))).trans (if_pos (by decide))).trans (pf_call_eq cnt)
        by_cases z : wk_S (ofl W a1) N.toNat = 0
        · exact fin (-1) (e1.trans (if_neg (by omega))) (by rw [if_pos z])
        · replace e1 := e1.trans (if_pos (by omega))
          obtain ⟨B, hB, e1⟩ := pf_loop e1
          refine fin _ (e1.trans (wf_cnt (n := N) (G := shf W a1 a2) (fin := fun x => ((x * 1000) / wk_S (ofl W a1) N.toNat, V)) hn0 (fun x k k0 => ?_))) (by rw [if_neg z, Int.mul_comm])
          have q := (congrFun hB (x, k)).trans (pf_let_eq hN)
          refine ⟨fun w => (q.trans (if_pos w)).trans (pf_let_eq rfl), fun w => ?_⟩
          replace q := ((q.trans (if_neg (show ¬ N ≤ k by omega))).trans (if_pos (show ¬ a2 = 4 by omega))).trans (pf_call_eq (ka_C ha ⟨k0, by rw [hN]; exact w⟩))
          have ol := ol_C h.1 h.2.1 ha hr a1 (k := k) ⟨k0, by rw [hN]; exact w⟩
          have bo := ofl_b W a1 k.toNat
          unfold shf shk
          rw [if_neg (show ¬ a2 = 4 by omega)]
          by_cases g : kk (W 101 (5 * k.toNat) / 10 % 10) (W 101 (5 * k.toNat) % 10) (W 101 (5 * k.toNat + 3)) = a2
          · replace q := (q.trans (if_neg (fun s => s g))).trans (pf_call_eq ol)
            rw [if_pos g]
            by_cases g2 : ofl W a1 k.toNat = 0
            · rw [if_pos g2, Int.add_zero]
              exact (q.trans (if_pos g2)).trans (pf_let_eq rfl)
            · rw [if_neg g2]
              exact ((q.trans (if_neg g2)).trans (pf_let_eq rfl)).trans (pf_let_eq rfl)
          · replace q := (q.trans (if_pos g)).trans (pf_call_eq ol)
            rw [if_neg g, ite_self, Int.add_zero]
            by_cases g2 : ofl W a1 k.toNat = 0
            · exact (q.trans (if_pos g2)).trans (pf_let_eq rfl)
            · exact (q.trans (if_neg g2)).trans (pf_let_eq rfl)
      · have c4 : a2 = 4 := by omega
        replace e1 := (((e1.trans (pf_call_eq ((nf_isKind a2).2 (by omega)))).trans (if_neg (by decide))).trans (if_neg (fun s => s c4))).trans (pf_call_eq cnt)
        by_cases z : wk_S (ofl W a1) N.toNat = 0
        · exact fin (-1) (e1.trans (if_neg (by omega))) (by rw [if_pos z])
        · replace e1 := e1.trans (if_pos (by omega))
          obtain ⟨B, hB, e1⟩ := pf_loop e1
          refine fin _ (e1.trans (wf_cnt (n := N) (G := shf W a1 a2) (fin := fun x => ((x * 1000) / wk_S (ofl W a1) N.toNat, V)) hn0 (fun x k k0 => ?_))) (by rw [if_neg z, Int.mul_comm])
          have q := (congrFun hB (x, k)).trans (pf_let_eq hN)
          refine ⟨fun w => (q.trans (if_pos w)).trans (pf_let_eq rfl), fun w => ?_⟩
          have q4 := ha.1 k.toNat 4 (by rw [hN]; omega) (by decide)
          rw [Nat.zero_add] at q4
          have ol := ol_C h.1 h.2.1 ha hr a1 (k := k) ⟨k0, by rw [hN]; exact w⟩
          replace q := (((q.trans (if_neg (show ¬ N ≤ k by omega))).trans (if_neg (fun s => s c4))).trans (pf_let_eq q4)).trans (pf_call_eq ol)
          have b4 := (hr k.toNat (by rw [hWN]; omega)).2.2.2
          unfold shf shk
          rw [if_pos c4]
          by_cases g2 : ofl W a1 k.toNat = 0
          · rw [if_pos g2, Int.add_zero]
            exact (q.trans (if_pos g2)).trans (pf_let_eq rfl)
          · rw [if_neg g2]
            replace q := q.trans (if_neg g2)
            by_cases g3 : W 101 (5 * k.toNat + 4) = 0
            · rw [g3, Int.add_zero]
              exact (q.trans (if_pos g3)).trans (pf_let_eq rfl)
            · rw [show W 101 (5 * k.toNat + 4) = 1 by omega]
              exact ((q.trans (if_neg g3)).trans (pf_let_eq rfl)).trans (pf_let_eq rfl)
    · replace e2 := (e2.trans (pf_call_eq ((nf_in a2 0 4).2 c2))).trans (if_neg (by decide))
      exact ⟨_, _, _, ((e1.trans (pf_call_eq ((nf_isKind a2).2 (by omega)))).trans (if_neg (by decide))).trans (if_pos (by omega)), e2, trivial⟩
  · exact ⟨_, _, _, (e1.trans (pf_call_eq ((nf_isLandOrAll a1).2 c1))).trans (if_pos (by decide)), (e2.trans (pf_call_eq ((nf_in a1 (-1) 3).2 c1))).trans (if_pos (by decide)), trivial⟩
