/-! ANSWERS on both sides, and in the images -/
def ab (c r o : Nat) (n : Int) (V W : pm_M) : Prop := ∀ j t : Nat, (j : Int) < n → t < 5 → V (c + t) j = W r (o + (5 * j + t))
/-- who answered is there -/
def rn (W : pm_M) : Prop := (∀ k : Nat, (k : Int) < W 90 25 → W 101 (5 * k) / 100 < W 90 23) ∧ ∀ m : Nat, m < 3 → W 102 m = 1 → ∀ k : Nat, (k : Int) < W 105 m → W 106 (300 * m + 5 * k) / 100 < W 103 m
def ra (V W : pm_M) : Prop := ab 9 101 0 (V 4 6) V W ∧ (∀ m : Nat, m < 3 → W 102 m = 1 → ab (20 + 10 * m) 106 (300 * m) (V (15 + 10 * m) 6) V W) ∧ rn W
/-- the class's places that this speaks of -/
def ad (k i : Nat) : Prop := (9 ≤ k ∧ k ≤ 13) ∨ (k = 4 ∧ i = 6) ∨ (20 ≤ k ∧ k ≤ 24) ∨ (30 ≤ k ∧ k ≤ 34) ∨ (40 ≤ k ∧ k ≤ 44) ∨ ((k = 15 ∨ k = 25 ∨ k = 35) ∧ i = 6)
theorem ra.C {V W V' : pm_M} (h : ra V W) (e : ∀ k i, ad k i → V' k i = V k i) : ra V' W := by
  refine ⟨fun j t hj ht => ?_, fun m hm hw j t hj ht => ?_, h.2.2⟩
  · rw [e 4 6 (by unfold ad; omega)] at hj
    rw [e (9 + t) j (by unfold ad; omega)]
    exact h.1 j t hj ht
  · rw [e (15 + 10 * m) 6 (by unfold ad; omega)] at hj
    rw [e (20 + 10 * m + t) j (by unfold ad; omega)]
    exact h.2.1 m hm hw j t hj ht
theorem ra.R {V W W' : pm_M} (h : ra V W) (c : ∀ k, [101, 102, 103, 105, 106].contains k = true → W' k = W k) (e25 : W' 90 25 = W 90 25) (e23 : W 90 23 ≤ W' 90 23) : ra V W' := by
  obtain ⟨h1, h2, h3, h4⟩ := h
  unfold ra ab rn at *
  rw [c 101 rfl, c 102 rfl, c 103 rfl, c 105 rfl, c 106 rfl, e25]
  exact ⟨h1, h2, fun k hk => Int.lt_of_lt_of_le (h3 k hk) e23, h4⟩
theorem ra.lo {V V' : pm_M} (h : ra V V') (hk : ∀ k, k < 90 → V' k = V k) : ra V' V' := h.C (fun k i q => by rw [hk k (by unfold ad at q; omega)])
theorem ra.hi {V V' : pm_M} (h : ra V V) (hk : ∀ k, 90 ≤ k → V' k = V k) : ra V V' :=
  h.R (fun k q => hk k (by
    simp only [List.contains_eq_mem, List.mem_cons, List.not_mem_nil, or_false, decide_eq_true_eq] at q
    omega)) (by rw [hk 90 (by decide)]) (by rw [hk 90 (by decide)]; exact Int.le_refl _)
def ad_ck (cs : List Nat) (fs : List (Nat × Nat)) : Bool := (cs.all fun k => !((decide (9 ≤ k) && decide (k ≤ 13)) || k == 4 || k == 15 || k == 25 || k == 35 || (decide (20 ≤ k) && decide (k ≤ 24)) || (decide (30 ≤ k) && decide (k ≤ 34)) || (decide (40 ≤ k) && decide (k ≤ 44)))) && (fs.all fun q => !((decide (9 ≤ q.1) && decide (q.1 ≤ 13)) || (decide (20 ≤ q.1) && decide (q.1 ≤ 24)) || (decide (30 ≤ q.1) && decide (q.1 ≤ 34)) || (decide (40 ≤ q.1) && decide (q.1 ≤ 44)) || ((q.1 == 4 || q.1 == 15 || q.1 == 25 || q.1 == 35) && q.2 == 6)))
theorem ad_ck_at {cs : List Nat} {fs : List (Nat × Nat)} {V V' : pm_M} (hc : ad_ck cs fs = true) (hf : pm_ff cs fs V V') : ∀ k i, ad k i → V' k i = V k i := by
  intro k i hn
  unfold ad_ck at hc
  simp only [Bool.and_eq_true] at hc
  unfold ad at hn
  refine hf k i (fun m => ?_) (fun m => ?_)
  · have h1 := List.all_eq_true.mp hc.1 k m
    simp at h1
    omega
  · have h1 := List.all_eq_true.mp hc.2 (k, i) m
    simp at h1
    omega
theorem ra.ff {V W V' : pm_M} {cs : List Nat} {fs : List (Nat × Nat)} (h : ra V W) (hf : pm_ff cs fs V V') (hc : ad_ck cs fs = true) : ra V' W := h.C (ad_ck_at hc hf)
theorem ra.fs {V W W' : pm_M} {cs fs : List Nat} (h : ra V W) (hf : pm_fs cs fs W W') (hc : lw_nf [101, 102, 103, 105, 106] cs = true) (hn : lw_nf [23, 25] fs = true) : ra V W' :=
  h.R (fun k q => hf.1 k (lw_nf_at hc k q) (by rintro rfl; exact absurd q (by decide))) (hf.2 25 (lw_nf_at hn 25 rfl)) (by rw [hf.2 23 (lw_nf_at hn 23 rfl)]; exact Int.le_refl _)
/-- none of them -/
theorem ra.none {V W : pm_M} (e4 : V 4 6 = 0) (e25 : W 90 25 = 0) (c : ∀ q : Nat, q < 3 → W 102 q = 0) : ra V W := by
  refine ⟨fun j t hj ht => ?_, fun m hm hw => ?_, fun k hk => ?_, fun m hm hw => ?_⟩
  · rw [e4] at hj
    omega
  · rw [c m hm] at hw
    exact absurd hw (by decide)
  · rw [e25] at hk
    omega
  · rw [c m hm] at hw
    exact absurd hw (by decide)
/-- one less -/
theorem ra.less {V W : pm_M} {a b : Int} (h : ra V W) (ha : a ≤ V 4 6) (hb : b ≤ W 90 25) : ra (pm_up V 4 6 a) (pm_up W 90 25 b) := by
  refine ⟨fun j t hj ht => ?_, fun m hm hw j t hj ht => ?_, fun k hk => ?_, fun m hm hw k hk => ?_⟩
  · rw [pm_up_s] at hj
    rw [pm_up_c (by omega), pm_up_c (by decide)]
    exact h.1 j t (by omega) ht
  · rw [pm_up_c (by decide)] at hw
    rw [pm_up_c (by omega)] at hj
    rw [pm_up_c (by omega), pm_up_c (by decide)]
    exact h.2.1 m hm hw j t hj ht
  · rw [pm_up_s] at hk
    rw [pm_up_c (by decide), pm_up_i (by decide)]
    exact h.2.2.1 k (by omega)
  · rw [pm_up_c (by decide)] at hw
    rw [pm_up_c (by decide)] at hk
    rw [pm_up_c (by decide), pm_up_c (by decide)]
    exact h.2.2.2 m hm hw k hk
/-- one more -/
theorem ra.add {V W : pm_M} (h : ra V W) {n n2 x0 x1 x2 x3 x4 n' m2 : Int} (hn : V 4 6 = n) (h0 : 0 ≤ n) (hn2 : n2 = n) (hn' : n' = n + 1) (hm2 : m2 = n + 1) (hp : x0 / 100 < W 90 23) (hW : W 90 25 = n) : ra (pm_up (pm_up (pm_up (pm_up (pm_up (pm_up V 9 n.toNat x0) 10 n.toNat x1) 11 n.toNat x2) 12 n.toNat x3) 13 n.toNat x4) 4 6 n') (pm_up (pm_up (pm_up (pm_up (pm_up (pm_up W 101 (5 * n2).toNat x0) 101 ((5 * n2) + 1).toNat x1) 101 ((5 * n2) + 2).toNat x2) 101 ((5 * n2) + 3).toNat x3) 101 ((5 * n2) + 4).toNat x4) 90 25 m2) := by
  subst hn2
  refine ⟨fun j t hj ht => ?_, fun m hm hw j t hj ht => ?_, fun k hk => ?_, fun m hm hw k hk => ?_⟩
  · rw [pm_up_s, hn'] at hj
    rw [pm_up_c (by omega), pm_up_c (a := 101) (by decide), up_at, up_at, up_at, up_at, up_at]
    by_cases e : j = n2.toNat
    · rcases (show t = 0 ∨ t = 1 ∨ t = 2 ∨ t = 3 ∨ t = 4 by omega) with rfl | rfl | rfl | rfl | rfl
      · rw [if_neg (by omega), if_neg (by omega), if_neg (by omega), if_neg (by omega), if_pos (by omega), pm_up_c (by decide), pm_up_c (by decide), pm_up_c (by decide), pm_up_c (by decide), e]
        exact pm_up_s
      · rw [if_neg (by omega), if_neg (by omega), if_neg (by omega), if_pos (by omega), pm_up_c (by decide), pm_up_c (by decide), pm_up_c (by decide), e]
        exact pm_up_s
      · rw [if_neg (by omega), if_neg (by omega), if_pos (by omega), pm_up_c (by decide), pm_up_c (by decide), e]
        exact pm_up_s
      · rw [if_neg (by omega), if_pos (by omega), pm_up_c (by decide), e]
        exact pm_up_s
      · rw [if_pos (by omega), e]
        exact pm_up_s
    · rw [if_neg (by omega), if_neg (by omega), if_neg (by omega), if_neg (by omega), if_neg (by omega), pm_up_i e, pm_up_i e, pm_up_i e, pm_up_i e, pm_up_i e]
      exact h.1 j t (by omega) ht
  · rw [pm_up_c (by omega), pm_up_c (by omega), pm_up_c (by omega), pm_up_c (by omega), pm_up_c (by omega), pm_up_c (by omega)] at hw
    rw [pm_up_c (by omega), pm_up_c (by omega), pm_up_c (by omega), pm_up_c (by omega), pm_up_c (by omega), pm_up_c (by omega)] at hj
    rw [pm_up_c (by omega), pm_up_c (by omega), pm_up_c (by omega), pm_up_c (by omega), pm_up_c (by omega), pm_up_c (by omega), pm_up_c (by omega), pm_up_c (by omega), pm_up_c (by omega), pm_up_c (by omega), pm_up_c (by omega), pm_up_c (by omega)]
    exact h.2.1 m hm hw j t hj ht
  · rw [pm_up_s, hm2] at hk
    rw [pm_up_c (a := 101) (by decide), up_at, up_at, up_at, up_at, up_at, pm_up_i (a := 90) (by decide), pm_up_c (a := 90) (by decide), pm_up_c (a := 90) (by decide), pm_up_c (a := 90) (by decide), pm_up_c (a := 90) (by decide), pm_up_c (a := 90) (by decide)]
    rw [if_neg (by omega), if_neg (by omega), if_neg (by omega), if_neg (by omega)]
    by_cases e : k = n2.toNat
    · rw [if_pos (by omega)]
      exact hp
    · rw [if_neg (by omega)]
      exact h.2.2.1 k (by omega)
  · rw [pm_up_c (by decide), pm_up_c (by decide), pm_up_c (by decide), pm_up_c (by decide), pm_up_c (by decide), pm_up_c (by decide)] at hw
    rw [pm_up_c (by decide), pm_up_c (by decide), pm_up_c (by decide), pm_up_c (by decide), pm_up_c (by decide), pm_up_c (by decide)] at hk
    rw [pm_up_c (by decide), pm_up_c (by decide), pm_up_c (by decide), pm_up_c (by decide), pm_up_c (by decide), pm_up_c (by decide), pm_up_c (by decide), pm_up_c (by decide), pm_up_c (by decide), pm_up_c (by decide), pm_up_c (by decide), pm_up_c (by decide)]
    exact h.2.2.2 m hm hw k hk
theorem ra.person {V W : pm_M} (h : ra V W) {W' : pm_M} (c : ∀ k, [101, 102, 103, 105, 106].contains k = true → W' k = W k) (e25 : W' 90 25 = W 90 25) (e23 : W 90 23 ≤ W' 90 23) : ra V W' := h.R c e25 e23
/-- the call answer -/
theorem mQ_answer {V W V1 W1 : pm_M} {y y2 : Int} (hq : rq V W) (ha : ra V W) (hb : 2 ≤ W 90 16 ∧ 0 ≤ W 90 23 ∧ W 90 23 ≤ 10 ∧ 0 ≤ W 90 25 ∧ W 90 25 ≤ 60) (a1 a2 a3 a4 : Int) (he : F_X11_answer a1 a2 a3 a4 V = (y, V1)) (hf : F_X12_answer a1 a2 a3 a4 W = (y2, W1)) : ra V1 W1 := by
  have hs := hq.hs
  have h5 := hq.2.2.2.2.1
  have h6 := hq.2.2.2.2.2.1
  have e1 := he.symm.trans (F_X11_answer_eq a1 a2 a3 a4 V)
  have e2 := ((hf.symm.trans (F_X12_answer_eq a1 a2 a3 a4 W)).trans (pf_let_eq rfl)).trans (pf_let_eq rfl)
  by_cases ct : 0 ≤ a1 ∧ a1 / 100 < W 90 23 ∧ a1 / 10 % 10 < W 90 16 ∧ a1 % 10 < W 90 16 ∧ 0 ≤ a2 ∧ a2 ≤ 99 ∧ -99 ≤ a3 ∧ a3 ≤ 99
  · replace e1 := (e1.trans (pf_call_eq ((nf_isTrial hs a1 a2 a3).1 (by rw [h5]; exact ct)))).trans (if_neg (by decide))
    replace e2 := (e2.trans (pf_call_eq ((nf_isTrialR a1 a2 a3).1 ct))).trans (if_neg (by decide))
    by_cases c1 : a4 < 0
    · obtain ⟨-, rfl⟩ := Prod.mk.inj (e1.trans (if_pos c1))
      obtain ⟨-, rfl⟩ := Prod.mk.inj (e2.trans (if_pos c1))
      exact ha
    replace e1 := e1.trans (if_neg c1)
    replace e2 := e2.trans (if_neg c1)
    by_cases c2 : 1 < a4 / 100
    · obtain ⟨-, rfl⟩ := Prod.mk.inj (e1.trans (if_pos c2))
      obtain ⟨-, rfl⟩ := Prod.mk.inj (e2.trans (if_pos c2))
      exact ha
    replace e1 := e1.trans (if_neg c2)
    replace e2 := e2.trans (if_neg c2)
    by_cases c3 : W 90 16 ≤ a4 % 100
    · obtain ⟨-, rfl⟩ := Prod.mk.inj ((e1.trans (pf_call_eq ((nf_isSound hs (a4 % 100)).2 (by omega)))).trans (if_pos (by decide)))
      obtain ⟨-, rfl⟩ := Prod.mk.inj (e2.trans (if_pos c3))
      exact ha
    replace e1 := ((e1.trans (pf_call_eq ((nf_isSound hs (a4 % 100)).1 (by omega)))).trans (if_neg (by decide))).trans (pf_let_eq h6)
    replace e2 := e2.trans (if_neg c3)
    by_cases c4 : W 90 25 = 60
    · obtain ⟨-, rfl⟩ := Prod.mk.inj (e1.trans (if_neg (by omega)))
      obtain ⟨-, rfl⟩ := Prod.mk.inj (e2.trans (if_neg (fun q => q c4)))
      exact ha
    replace e1 := e1.trans (if_pos (show W 90 25 < 60 by omega))
    replace e2 := (e2.trans (if_pos c4)).trans (pf_call_eq (((F_X12_keepsAnswer_eq a1 a2 a3 (a4 % 100) (a4 / 100) W).trans (pf_let_eq rfl)).trans (pf_let_eq rfl)))
    obtain ⟨-, e3⟩ := Prod.mk.inj (e2.trans (pf_let_eq rfl))
    rw [e3]
    have ed : ∀ x : Int, F_X7_addAnswer a1 a2 a3 (a4 % 100) x V = (0, pm_up (pm_up (pm_up (pm_up (pm_up (pm_up V 9 (W 90 25).toNat a1) 10 (W 90 25).toNat a2) 11 (W 90 25).toNat a3) 12 (W 90 25).toNat (a4 % 100)) 13 (W 90 25).toNat x) 4 6 (W 90 25 + 1)) := fun x =>
      ((F_X7_addAnswer_eq a1 a2 a3 (a4 % 100) x V).trans (pf_let_eq h6)).trans (if_neg (by omega))
    by_cases c5 : a4 < 100
    · obtain ⟨-, e4⟩ := Prod.mk.inj (((e1.trans (if_pos c5)).trans (pf_call_eq (ed 0))).trans (pf_let_eq rfl))
      rw [e4, show a4 / 100 = 0 by omega]
      exact ha.add h6 hb.2.2.2.1 rfl rfl rfl ct.2.1 rfl
    · obtain ⟨-, e4⟩ := Prod.mk.inj (((e1.trans (if_neg c5)).trans (pf_call_eq (ed 1))).trans (pf_let_eq rfl))
      rw [e4, show a4 / 100 = 1 by omega]
      exact ha.add h6 hb.2.2.2.1 rfl rfl rfl ct.2.1 rfl
  · obtain ⟨-, rfl⟩ := Prod.mk.inj ((e1.trans (pf_call_eq ((nf_isTrial hs a1 a2 a3).2 (by rw [h5]; exact ct)))).trans (if_pos (by decide)))
    obtain ⟨-, rfl⟩ := Prod.mk.inj ((e2.trans (pf_call_eq ((nf_isTrialR a1 a2 a3).2 ct))).trans (if_pos (by decide)))
    exact ha
theorem mQ_undo {V W V1 W1 : pm_M} {y y2 : Int} (hq : rq V W) (ha : ra V W) (he : F_X11_undo V = (y, V1)) (hf : F_X12_undo W = (y2, W1)) : ra V1 W1 := by
  have h6 := hq.2.2.2.2.2.1
  have e1 := (he.symm.trans (F_X11_undo_eq V)).trans (pf_let_eq rfl)
  have e2 := (hf.symm.trans (F_X12_undo_eq W)).trans (pf_let_eq rfl)
  have C : ∃ a, a ≤ V 4 6 ∧ (V1 = pm_up V 4 6 a ∨ V1 = V) := by
    by_cases c : 0 < V 4 6
    · exact ⟨V 4 6 - 1, by omega, Or.inl (Prod.mk.inj (e1.trans (if_pos c))).2⟩
    · exact ⟨V 4 6, by omega, Or.inr (Prod.mk.inj (e1.trans (if_neg c))).2⟩
  have R : ∃ b, b ≤ W 90 25 ∧ (W1 = pm_up W 90 25 b ∨ W1 = W) := by
    by_cases c : W 90 25 = 0
    · exact ⟨W 90 25, by omega, Or.inr (Prod.mk.inj (e2.trans (if_neg (fun q => q c)))).2⟩
    · exact ⟨W 90 25 - 1, by omega, Or.inl (Prod.mk.inj (e2.trans (if_pos c))).2⟩
  obtain ⟨a, a1, a2⟩ := C
  obtain ⟨b, b1, b2⟩ := R
  have idV : pm_up V 4 6 (V 4 6) = V := by
    funext k i
    by_cases q : k = 4 ∧ i = 6
    · obtain ⟨rfl, rfl⟩ := q
      exact pm_up_s
    · exact up_ne q
  have idW : pm_up W 90 25 (W 90 25) = W := by
    funext k i
    by_cases q : k = 90 ∧ i = 25
    · obtain ⟨rfl, rfl⟩ := q
      exact pm_up_s
    · exact up_ne q
  rcases a2 with rfl | rfl <;> rcases b2 with rfl | rfl
  · exact ha.less a1 b1
  · have q := ha.less a1 (Int.le_refl _)
    rw [idW] at q
    exact q
  · have q := ha.less (Int.le_refl _) b1
    rw [idV] at q
    exact q
  · exact ha
theorem mQ_image {V W V1 W1 : pm_M} {y y2 : Int} (hq : rq V W) (ha : ra V W) (h0 : 2 ≤ W 90 16) (hb : V 4 6 ≤ 60) (hi : ∀ m : Nat, m < 3 → V (15 + 10 * m) 6 ≤ 60) (hj : ∀ m : Nat, m < 3 → W 105 m ≤ 60) (a : Int) (e : F_X11_image a V = (y, V1)) (f : F_X12_image a W = (y2, W1)) : ra V1 W1 := by
  obtain ⟨c0, c1⟩ := imC hq.hs (by omega) a
  by_cases c : 0 ≤ a ∧ a ≤ 2
  · obtain ⟨Z, z1, z2⟩ := c1 a.toNat (by omega) (by omega)
    obtain ⟨Z1, y1, y2, y3, y4⟩ := cp_from (15 + 10 * a.toNat) 4 V (by omega)
    obtain ⟨-, rfl⟩ := Prod.mk.inj (z1.symm.trans y1)
    obtain ⟨-, d1⟩ := cp_data (15 + 10 * a.toNat) 4 V (by omega) z1
    obtain ⟨W2, w1, w2⟩ := im_to a W c.1 c.2
    obtain ⟨-, rfl⟩ := Prod.mk.inj (w1.symm.trans f)
    obtain ⟨-, rfl⟩ := Prod.mk.inj (z2.symm.trans e)
    obtain ⟨-, -, g3, g4⟩ := im_data a W c.1 c.2 f
    have hm2 : a.toNat < 3 := by omega
    have h6 := hq.2.2.2.2.2.1
    have k101 : ∀ q : Nat, W2 101 q = W 101 q := fun q => by rw [w2 101 q (by decide) (by decide), pm_up_c (by decide), pm_up_c (by decide), pm_up_c (by decide)]
    have k90 : ∀ i : Nat, W2 90 i = W 90 i := fun i => by rw [w2 90 i (by decide) (by decide), pm_up_c (by decide), pm_up_c (by decide), pm_up_c (by decide)]
    have k102 : ∀ m : Nat, m ≠ a.toNat → W2 102 m = W 102 m := fun m em => by rw [w2 102 m (by decide) (by decide), pm_up_c (by decide), pm_up_c (by decide), pm_up_i em]
    have k103 : ∀ m : Nat, m ≠ a.toNat → W2 103 m = W 103 m := fun m em => by rw [w2 103 m (by decide) (by decide), pm_up_c (by decide), pm_up_i em, pm_up_c (by decide)]
    have k105 : ∀ m : Nat, m ≠ a.toNat → W2 105 m = W 105 m := fun m em => by rw [w2 105 m (by decide) (by decide), pm_up_i em, pm_up_c (by decide), pm_up_c (by decide)]
    have k103a : W2 103 a.toNat = W 90 23 := by rw [w2 103 _ (by decide) (by decide), pm_up_c (by decide), pm_up_s]
    have k105a : W2 105 a.toNat = W 90 25 := by rw [w2 105 _ (by decide) (by decide), pm_up_s]
    refine ⟨fun j t hj ht => ?_, fun m hm hw j t hj ht => ?_, fun k hk => ?_, fun m hm hw k hk => ?_⟩
    · rw [pm_up_c (by omega), y4 4 6 (by omega) (by omega)] at hj
      rw [pm_up_c (by omega), y4 (9 + t) j (by omega) (by omega), k101]
      exact ha.1 j t hj ht
    · by_cases em : m = a.toNat
      · subst em
        rw [pm_up_i (by decide), y3] at hj
        rw [pm_up_c (by omega), g3 _ (by omega), show 20 + 10 * a.toNat + t = 15 + 10 * a.toNat + (5 + t) by omega, d1 (5 + t) j (by omega) (by omega) hj, show 4 + (5 + t) = 9 + t by omega, ha.1 j t hj ht, Nat.zero_add]
      · rw [k102 m em] at hw
        rw [pm_up_c (by omega), y4 (15 + 10 * m) 6 (by omega) (by omega)] at hj
        have hj2 := hi m hm
        rw [pm_up_c (by omega), y4 (20 + 10 * m + t) j (by omega) (by omega), g4 _ (by omega)]
        exact ha.2.1 m hm hw j t hj ht
    · rw [k90] at hk
      rw [k101, k90]
      exact ha.2.2.1 k hk
    · by_cases em : m = a.toNat
      · subst em
        rw [k105a] at hk
        rw [k103a, g3 _ (by omega)]
        exact ha.2.2.1 k hk
      · rw [k102 m em] at hw
        rw [k105 m em] at hk
        have hj2 := hj m hm
        rw [k103 m em, g4 _ (by omega)]
        exact ha.2.2.2 m hm hw k hk
  · obtain ⟨-, rfl⟩ := Prod.mk.inj ((c0 c).symm.trans e)
    have f' := F_X12_image_eq a W
    simp only [pf_let] at f'
    replace f' := f'.trans (pf_call_eq ((nf_in a 0 2).2 c))
    replace f' := f'.trans (if_neg (by decide))
    obtain ⟨-, rfl⟩ := Prod.mk.inj (f'.symm.trans f)
    exact ha
theorem mQ_back {V W V1 W1 : pm_M} {y y2 : Int} (hq : rq V W) (ha : ra V W) (hI : ∀ m : Nat, m < 3 → W 102 m = 0 ∨ W 102 m = 1) (hi : ∀ m : Nat, m < 3 → V (15 + 10 * m) 6 ≤ 60) (hj : ∀ m : Nat, m < 3 → W 105 m ≤ 60) (a : Int) (e : F_X11_back a V = (y, V1)) (f : F_X12_back a W = (y2, W1)) : ra V1 W1 := by
  obtain ⟨c0, c1⟩ := bkC (V := V) a
  by_cases c : 0 ≤ a ∧ a ≤ 2
  · have hm : a.toNat < 3 := by omega
    obtain ⟨c2, c3⟩ := c1 a.toNat hm (by omega)
    obtain ⟨t1, t2⟩ := hq.2.2.2.2.2.2 a.toNat hm
    by_cases cz : W 102 a.toNat = 0
    · obtain ⟨-, rfl⟩ := Prod.mk.inj ((c2 (t1.trans cz)).symm.trans e)
      have f' := F_X12_back_eq a W
      simp only [pf_let] at f'
      replace f' := f'.trans (pf_call_eq ((nf_in a 0 2).1 c))
      replace f' := f'.trans (if_neg (by decide))
      replace f' := f'.trans (if_neg (fun q => q cz))
      obtain ⟨-, rfl⟩ := Prod.mk.inj (f'.symm.trans f)
      exact ha
    · have cw : W 102 a.toNat = 1 := (hI a.toNat hm).resolve_left cz
      obtain ⟨Z, z1, z2⟩ := c3 (by rw [t1]; exact cz)
      obtain ⟨Z1, y1, y2, y3, y4⟩ := cp_from 4 (15 + 10 * a.toNat) V (by omega)
      obtain ⟨-, rfl⟩ := Prod.mk.inj (z1.symm.trans y1)
      obtain ⟨-, d1⟩ := cp_data 4 (15 + 10 * a.toNat) V (by omega) z1
      obtain ⟨W2, w1, w2⟩ := im_back a W c.1 c.2 cz
      obtain ⟨-, rfl⟩ := Prod.mk.inj (w1.symm.trans f)
      obtain ⟨-, rfl⟩ := Prod.mk.inj (z2.symm.trans e)
      obtain ⟨-, g1⟩ := bk_data a W c.1 c.2 cz f
      have hj3 := hj a.toNat hm
      have k1 : ∀ k i : Nat, k ≠ 90 → k ≠ 100 → k ≠ 101 → W2 k i = W k i := fun k i q1 q2 q3 => by rw [w2 k i q2 q3, pm_up_c q1, pm_up_c q1]
      have k25 : W2 90 25 = W 105 a.toNat := by rw [w2 90 25 (by decide) (by decide), pm_up_s]
      have k23 : W2 90 23 = W 103 a.toNat := by rw [w2 90 23 (by decide) (by decide), pm_up_i (by decide), pm_up_s]
      refine ⟨fun j t hj ht => ?_, fun m hm2 hw j t hj ht => ?_, fun k hk => ?_, fun m hm2 hw k hk => ?_⟩
      · rw [y3] at hj
        have hj2 := hi a.toNat hm
        rw [show 9 + t = 4 + (5 + t) by omega, d1 (5 + t) j (by omega) (by omega) hj, g1 _ (by omega), Nat.zero_add, show 15 + 10 * a.toNat + (5 + t) = 20 + 10 * a.toNat + t by omega]
        exact ha.2.1 _ hm cw j t hj ht
      · rw [k1 102 m (by decide) (by decide) (by decide)] at hw
        rw [y4 (15 + 10 * m) 6 (by omega) (by omega)] at hj
        rw [y4 (20 + 10 * m + t) j (by omega) (by omega), k1 106 _ (by decide) (by decide) (by decide)]
        exact ha.2.1 m hm2 hw j t hj ht
      · rw [k25] at hk
        rw [k23, g1 _ (by omega)]
        exact ha.2.2.2 _ hm cw k hk
      · rw [k1 102 m (by decide) (by decide) (by decide)] at hw
        rw [k1 105 m (by decide) (by decide) (by decide)] at hk
        rw [k1 106 _ (by decide) (by decide) (by decide), k1 103 m (by decide) (by decide) (by decide)]
        exact ha.2.2.2 m hm2 hw k hk
  · obtain ⟨-, rfl⟩ := Prod.mk.inj ((c0 c).symm.trans e)
    have f' := F_X12_back_eq a W
    simp only [pf_let] at f'
    replace f' := f'.trans (pf_call_eq ((nf_in a 0 2).2 c))
    replace f' := f'.trans (if_pos (by decide))
    obtain ⟨-, rfl⟩ := Prod.mk.inj (f'.symm.trans f)
    exact ha
