/-! PEOPLE on both sides, and in the images -/
def pb (c r o : Nat) (n : Int) (V W : pm_M) : Prop := ∀ j t : Nat, (j : Int) < n → t < 4 → V (c + t) j = W r (o + (4 * j + t))
def rp (V W : pm_M) : Prop := pb 5 100 0 (V 4 1) V W ∧ ∀ m : Nat, m < 3 → W 102 m = 1 → pb (16 + 10 * m) 104 (40 * m) (V (15 + 10 * m) 1) V W
/-- the class's places that this speaks of -/
def pd (k i : Nat) : Prop := (5 ≤ k ∧ k ≤ 8) ∨ (k = 4 ∧ i = 1) ∨ (16 ≤ k ∧ k ≤ 19) ∨ (26 ≤ k ∧ k ≤ 29) ∨ (36 ≤ k ∧ k ≤ 39) ∨ ((k = 15 ∨ k = 25 ∨ k = 35) ∧ i = 1)
theorem rp.C {V W V' : pm_M} (h : rp V W) (e : ∀ k i, pd k i → V' k i = V k i) : rp V' W := by
  refine ⟨fun j t hj ht => ?_, fun m hm hw j t hj ht => ?_⟩
  · rw [e 4 1 (by unfold pd; omega)] at hj
    rw [e (5 + t) j (by unfold pd; omega)]
    exact h.1 j t hj ht
  · rw [e (15 + 10 * m) 1 (by unfold pd; omega)] at hj
    rw [e (16 + 10 * m + t) j (by unfold pd; omega)]
    exact h.2 m hm hw j t hj ht
theorem rp.R {V W W' : pm_M} (h : rp V W) (c : ∀ k, [100, 102, 104].contains k = true → W' k = W k) : rp V W' := by
  unfold rp pb at h ⊢
  rw [c 100 rfl, c 102 rfl, c 104 rfl]
  exact h
theorem rp.lo {V V' : pm_M} (h : rp V V') (hk : ∀ k, k < 90 → V' k = V k) : rp V' V' :=
  h.C (fun k i q => by
    rw [hk k (by unfold pd at q; omega)])
def pd_ck (cs : List Nat) (fs : List (Nat × Nat)) : Bool := (cs.all fun k => !((decide (4 ≤ k) && decide (k ≤ 8)) || (decide (15 ≤ k) && decide (k ≤ 19)) || (decide (25 ≤ k) && decide (k ≤ 29)) || (decide (35 ≤ k) && decide (k ≤ 39)))) && (fs.all fun q => !((decide (5 ≤ q.1) && decide (q.1 ≤ 8)) || (decide (16 ≤ q.1) && decide (q.1 ≤ 19)) || (decide (26 ≤ q.1) && decide (q.1 ≤ 29)) || (decide (36 ≤ q.1) && decide (q.1 ≤ 39)) || ((q.1 == 4 || q.1 == 15 || q.1 == 25 || q.1 == 35) && q.2 == 1)))
theorem pd_ck_at {cs : List Nat} {fs : List (Nat × Nat)} {V V' : pm_M} (hc : pd_ck cs fs = true) (hf : pm_ff cs fs V V') : ∀ k i, pd k i → V' k i = V k i := by
  intro k i hn
  unfold pd_ck at hc
  simp only [Bool.and_eq_true] at hc
  unfold pd at hn
  refine hf k i (fun m => ?_) (fun m => ?_)
  · have h1 := List.all_eq_true.mp hc.1 k m
    simp at h1
    omega
  · have h1 := List.all_eq_true.mp hc.2 (k, i) m
    simp at h1
    omega
theorem rp.ff {V W V' : pm_M} {cs : List Nat} {fs : List (Nat × Nat)} (h : rp V W) (hf : pm_ff cs fs V V') (hc : pd_ck cs fs = true) : rp V' W := h.C (pd_ck_at hc hf)
theorem rp.fs {V W W' : pm_M} {cs fs : List Nat} (h : rp V W) (hf : pm_fs cs fs W W') (hc : lw_nf [100, 102, 104] cs = true) : rp V W' :=
  h.R (fun k q => hf.1 k (lw_nf_at hc k q) (by rintro rfl; exact absurd q (by decide)))
/-- own puts people back -/
theorem rp.own {V W W' : pm_M} {cs fs : List Nat} (h : rp V W) (hf : pm_fs cs fs W W') (hx : ∀ q : Nat, W' 100 q = W 100 q) (hc : lw_nf [102, 104] cs = true) : rp V W' :=
  h.R (fun k q => by
    rcases (show k = 100 ∨ k = 102 ∨ k = 104 by (simp only [List.contains_eq_mem, List.mem_cons, List.not_mem_nil, or_false, decide_eq_true_eq] at q; exact q)) with rfl | rfl | rfl
    · exact funext hx
    · exact hf.1 102 (lw_nf_at hc 102 rfl) (by decide)
    · exact hf.1 104 (lw_nf_at hc 104 rfl) (by decide))
theorem up_at {W : pm_M} {k q i : Nat} {x : Int} : pm_up W k i x k q = if q = i then x else W k q := by simp [pm_up]
/-- one more -/
theorem rp.add {V W : pm_M} (h : rp V W) {n n2 x5 x6 x7 x8 n' m2 : Int} (hn : V 4 1 = n) (h0 : 0 ≤ n) (hn2 : n2 = n) (hn' : n' = n + 1) : rp (pm_up (pm_up (pm_up (pm_up (pm_up V 8 n.toNat x8) 5 n.toNat x5) 6 n.toNat x6) 7 n.toNat x7) 4 1 n') (pm_up (pm_up (pm_up (pm_up (pm_up W 100 (4 * n2).toNat x5) 100 ((4 * n2) + 1).toNat x6) 100 ((4 * n2) + 2).toNat x7) 100 ((4 * n2) + 3).toNat x8) 90 23 m2) := by
  subst hn2
  refine ⟨fun j t hj ht => ?_, fun m hm hw j t hj ht => ?_⟩
  · rw [pm_up_s, hn'] at hj
    rw [pm_up_c (by omega), pm_up_c (a := 100) (by decide), up_at, up_at, up_at, up_at]
    by_cases e : j = n2.toNat
    · rcases (show t = 0 ∨ t = 1 ∨ t = 2 ∨ t = 3 by omega) with rfl | rfl | rfl | rfl
      · rw [if_neg (by omega), if_neg (by omega), if_neg (by omega), if_pos (by omega), pm_up_c (by decide), pm_up_c (by decide), e]
        exact pm_up_s
      · rw [if_neg (by omega), if_neg (by omega), if_pos (by omega), pm_up_c (by decide), e]
        exact pm_up_s
      · rw [if_neg (by omega), if_pos (by omega), e]
        exact pm_up_s
      · rw [if_pos (by omega), pm_up_c (by decide), pm_up_c (by decide), pm_up_c (by decide), e]
        exact pm_up_s
    · rw [if_neg (by omega), if_neg (by omega), if_neg (by omega), if_neg (by omega), pm_up_i e, pm_up_i e, pm_up_i e, pm_up_i e]
      exact h.1 j t (by omega) ht
  · rw [pm_up_c (by omega), pm_up_c (by omega), pm_up_c (by omega), pm_up_c (by omega), pm_up_c (by omega)] at hw
    rw [pm_up_c (by omega), pm_up_c (by omega), pm_up_c (by omega), pm_up_c (by omega), pm_up_c (by omega)] at hj
    rw [pm_up_c (by omega), pm_up_c (by omega), pm_up_c (by omega), pm_up_c (by omega), pm_up_c (by omega), pm_up_c (by omega), pm_up_c (by omega), pm_up_c (by omega), pm_up_c (by omega), pm_up_c (by omega)]
    exact h.2 m hm hw j t hj ht
/-- a change -/
theorem rp.ch {V W : pm_M} (h : rp V W) {n x5 x6 x7 : Int} (h0 : 0 ≤ n) : rp (pm_up (pm_up (pm_up V 5 n.toNat x5) 6 n.toNat x6) 7 n.toNat x7) (pm_up (pm_up (pm_up W 100 (4 * n).toNat x5) 100 ((4 * n) + 1).toNat x6) 100 ((4 * n) + 2).toNat x7) := by
  refine ⟨fun j t hj ht => ?_, fun m hm hw j t hj ht => ?_⟩
  · rw [pm_up_c (by decide), pm_up_c (by decide), pm_up_c (by decide)] at hj
    rw [up_at, up_at, up_at]
    by_cases e : j = n.toNat
    · rcases (show t = 0 ∨ t = 1 ∨ t = 2 ∨ t = 3 by omega) with rfl | rfl | rfl | rfl
      · rw [if_neg (by omega), if_neg (by omega), if_pos (by omega), pm_up_c (by decide), pm_up_c (by decide), e]
        exact pm_up_s
      · rw [if_neg (by omega), if_pos (by omega), pm_up_c (by decide), e]
        exact pm_up_s
      · rw [if_pos (by omega), e]
        exact pm_up_s
      · rw [if_neg (by omega), if_neg (by omega), if_neg (by omega), pm_up_c (by decide), pm_up_c (by decide), pm_up_c (by decide)]
        exact h.1 j 3 hj (by decide)
    · rw [if_neg (by omega), if_neg (by omega), if_neg (by omega), pm_up_i e, pm_up_i e, pm_up_i e]
      exact h.1 j t hj ht
  · rw [pm_up_c (by omega), pm_up_c (by omega), pm_up_c (by omega)] at hw
    rw [pm_up_c (by omega), pm_up_c (by omega), pm_up_c (by omega)] at hj
    rw [pm_up_c (by omega), pm_up_c (by omega), pm_up_c (by omega), pm_up_c (by omega), pm_up_c (by omega), pm_up_c (by omega)]
    exact h.2 m hm hw j t hj ht
/-! COPIES of sheets: what they hold -/
theorem cp_put4 {U : pm_M} {d s x t j : Nat} (ht : 1 ≤ t ∧ t ≤ 4) : pm_up (pm_up (pm_up (pm_up U (d + 1) x (U (s + 1) x)) (d + 2) x (U (s + 2) x)) (d + 3) x (U (s + 3) x)) (d + 4) x (U (s + 4) x) (d + t) j = if j = x then U (s + t) x else U (d + t) j := by
  rcases (show t = 1 ∨ t = 2 ∨ t = 3 ∨ t = 4 by omega) with rfl | rfl | rfl | rfl <;> by_cases e : j = x <;> simp [pm_up, e]
theorem cp_put5 {U : pm_M} {d s x t j : Nat} (ht : 5 ≤ t ∧ t ≤ 9) : pm_up (pm_up (pm_up (pm_up (pm_up U (d + 5) x (U (s + 5) x)) (d + 6) x (U (s + 6) x)) (d + 7) x (U (s + 7) x)) (d + 8) x (U (s + 8) x)) (d + 9) x (U (s + 9) x) (d + t) j = if j = x then U (s + t) x else U (d + t) j := by
  rcases (show t = 5 ∨ t = 6 ∨ t = 7 ∨ t = 8 ∨ t = 9 by omega) with rfl | rfl | rfl | rfl | rfl <;> by_cases e : j = x <;> simp [pm_up, e]
theorem cp_data (dst src : Nat) (V : pm_M) (h1 : dst + 9 < src ∨ src + 9 < dst) {Z : pm_M} {z : Int} (hZ : F_X7_copyFrom dst src V = (z, Z)) : (∀ t j : Nat, 1 ≤ t → t ≤ 4 → (j : Int) < V src 1 → Z (dst + t) j = V (src + t) j) ∧ (∀ t j : Nat, 5 ≤ t → t ≤ 9 → (j : Int) < V src 6 → Z (dst + t) j = V (src + t) j) := by
  have e := hZ.symm.trans (F_X7_copyFrom_eq dst src V)
  simp only [pf_let] at e
  obtain ⟨y, hy⟩ : ∃ y, V src 1 = y := ⟨_, rfl⟩
  obtain ⟨n, hn⟩ : ∃ n, V src 6 = n := ⟨_, rfl⟩
  rw [hy] at e
  obtain ⟨B, hB, e⟩ := pf_loop e
  have hBx : ∀ (x : Int) (U : pm_M), _ := fun x U => congrFun hB (x, U)
  simp only [] at hBx
  have key := pf_val_ind2 (d := ((0 : Int), V)) (b := B) (fun s => 0 ≤ s.1 ∧ (∀ k i, (k < dst ∨ dst + 9 < k) → s.2 k i = V k i) ∧ (∀ t j : Nat, 1 ≤ t → t ≤ 4 → (j : Int) < s.1 → s.2 (dst + t) j = V (src + t) j)) (fun o => (∀ t j : Nat, 1 ≤ t → t ≤ 4 → (j : Int) < y → o.2 (dst + t) j = V (src + t) j) ∧ (∀ t j : Nat, 5 ≤ t → t ≤ 9 → (j : Int) < n → o.2 (dst + t) j = V (src + t) j)) (fun s => (y - s.1).toNat) ?_ (0, pm_up V dst 1 y) ⟨Int.le_refl _, fun k i q => pm_up_c (by omega), fun t j _ _ q => absurd q (by dsimp only; omega)⟩
  · rw [← e] at key
    rw [hy, hn]
    exact key
  · rintro ⟨x, U⟩ ⟨p0, p1, p2⟩
    dsimp only at p0 p1 p2
    have b0 := hBx x U
    by_cases c : y ≤ x
    · rw [if_pos c] at b0
      obtain ⟨B2, hB2, b1⟩ := pf_loop b0
      have hx2 : ∀ (x : Int) (U : pm_M), _ := fun x U => congrFun hB2 (x, U)
      simp only [] at hx2
      have u6 : U src 6 = n := (p1 src 6 (by omega)).trans hn
      rw [u6] at b1
      have key2 := pf_val_ind2 (d := (Sum.inr ((0 : Int), V) : (Int × pm_M) ⊕ (Int × pm_M))) (b := B2) (fun s => 0 ≤ s.1 ∧ (∀ k i, (k < dst ∨ dst + 9 < k) → s.2 k i = V k i) ∧ (∀ t j : Nat, 1 ≤ t → t ≤ 4 → (j : Int) < y → s.2 (dst + t) j = V (src + t) j) ∧ (∀ t j : Nat, 5 ≤ t → t ≤ 9 → (j : Int) < s.1 → s.2 (dst + t) j = V (src + t) j)) (fun o => ∃ w : Int × pm_M, o = Sum.inr w ∧ (∀ t j : Nat, 1 ≤ t → t ≤ 4 → (j : Int) < y → w.2 (dst + t) j = V (src + t) j) ∧ (∀ t j : Nat, 5 ≤ t → t ≤ 9 → (j : Int) < n → w.2 (dst + t) j = V (src + t) j)) (fun s => (n - s.1).toNat) ?_ (0, pm_up U dst 6 n) ⟨Int.le_refl _, fun k i q => ?_, fun t j q1 q2 q3 => ?_, fun t j _ _ q => absurd q (by dsimp only; omega)⟩
      · obtain ⟨w, w1, w2⟩ := key2
        rw [w1] at b1
        exact Or.inr ⟨w, b1, w2⟩
      · rintro ⟨x2, U2⟩ ⟨r0, r1, r2, r3⟩
        dsimp only at r0 r1 r2 r3
        have b2 := hx2 x2 U2
        rw [u6] at b2
        by_cases c2 : n ≤ x2
        · rw [if_pos c2] at b2
          exact Or.inr ⟨_, b2, _, rfl, r2, fun t j q1 q2 q3 => r3 t j q1 q2 (by omega)⟩
        · rw [if_neg c2] at b2
          refine Or.inl ⟨_, b2, ⟨by dsimp only; omega, fun k i q => ?_, fun t j q1 q2 q3 => ?_, fun t j q1 q2 q3 => ?_⟩, by dsimp only; omega⟩
          · dsimp only
            rw [pm_up_c (by omega), pm_up_c (by omega), pm_up_c (by omega), pm_up_c (by omega), pm_up_c (by omega)]
            exact r1 k i q
          · dsimp only
            rw [pm_up_c (by omega), pm_up_c (by omega), pm_up_c (by omega), pm_up_c (by omega), pm_up_c (by omega)]
            exact r2 t j q1 q2 q3
          · dsimp only at q3 ⊢
            rw [cp_put5 ⟨q1, q2⟩]
            by_cases ej : j = x2.toNat
            · rw [if_pos ej, ej]
              exact r1 _ _ (by omega)
            · rw [if_neg ej]
              exact r3 t j q1 q2 (by omega)
      · dsimp only
        rw [pm_up_c (by omega)]
        exact p1 k i q
      · dsimp only
        rw [pm_up_c (by omega)]
        exact p2 t j q1 q2 (by omega)
    · rw [if_neg c] at b0
      refine Or.inl ⟨_, b0, ⟨by dsimp only; omega, fun k i q => ?_, fun t j q1 q2 q3 => ?_⟩, by dsimp only; omega⟩
      · dsimp only
        rw [pm_up_c (by omega), pm_up_c (by omega), pm_up_c (by omega), pm_up_c (by omega)]
        exact p1 k i q
      · dsimp only at q3 ⊢
        rw [cp_put4 ⟨q1, q2⟩]
        by_cases ej : j = x.toNat
        · rw [if_pos ej, ej]
          exact p1 _ _ (by omega)
        · rw [if_neg ej]
          exact p2 t j q1 q2 (by omega)
