/-! WEIGHTS: how far the spans reach, in closed form -/
def wk_S (g : Nat → Int) : Nat → Int
  | 0 => 0
  | k + 1 => wk_S g k + g k
def wk_h (A B H : Nat → Int) (v : Nat) (s : Int) (j : Nat) : Int := H j * pm_mx 0 (s - (pm_ab (A j - A v) + pm_ab (B j - B v)))
def wk_s (A : Nat → Int) (f : Nat) (s : Int) (j : Nat) : Int := pm_mx 0 (s - pm_ab (A j - A f))
theorem wk_S_b {g : Nat → Int} {M : Int} (hM : 0 ≤ M) : ∀ k : Nat, (∀ j : Nat, j < k → 0 ≤ g j ∧ g j ≤ M) → 0 ≤ wk_S g k ∧ wk_S g k ≤ (k : Int) * M := by
  intro k
  induction k with
  | zero => intro _; simp [wk_S]
  | succ k ih =>
    intro h
    obtain ⟨i1, i2⟩ := ih (fun j hj => h j (by omega))
    obtain ⟨g1, g2⟩ := h k (by omega)
    have e : ((k + 1 : Nat) : Int) * M = (k : Int) * M + M := by rw [Int.natCast_add, Int.add_mul]; simp
    rw [e]
    show 0 ≤ wk_S g k + g k ∧ wk_S g k + g k ≤ _
    omega
/-- the class's loop over the sounds -/
theorem cw_spread {c : Nat} (hc : c = 45 ∨ c = 51) {V Z : pm_M} {z a1 a2 n sv sf : Int} (h0 : V 73 0 = (c : Int)) (hn : V c 0 = n) (hn9 : 0 ≤ n ∧ n ≤ 9) (hv : pm_mx 1 ((V c 4 + a1) + (V c 5 * V 73 3)) = sv) (hf : pm_mx 1 ((V c 6 + a2) + (V c 7 * V 73 4)) = sf) (hh : ∀ j : Nat, (j : Int) < n → 0 ≤ wk_h (V (c + 1)) (V (c + 2)) (V (c + 3)) (V 73 1).toNat sv j ∧ wk_h (V (c + 1)) (V (c + 2)) (V (c + 3)) (V 73 1).toNat sv j ≤ 1000000) (hs : ∀ j : Nat, (j : Int) < n → 0 ≤ wk_s (V (c + 1)) (V 73 2).toNat sf j ∧ wk_s (V (c + 1)) (V 73 2).toNat sf j ≤ 1000000) (hZ : F_X10_spread a1 a2 V = (z, Z)) : Z 73 5 = sv ∧ Z 73 6 = sf ∧ Z 73 10 = wk_S (wk_h (V (c + 1)) (V (c + 2)) (V (c + 3)) (V 73 1).toNat sv) n.toNat ∧ Z 73 11 = wk_S (wk_s (V (c + 1)) (V 73 2).toNat sf) n.toNat ∧ Z 73 12 = wk_S (fun j => wk_h (V (c + 1)) (V (c + 2)) (V (c + 3)) (V 73 1).toNat sv j * wk_s (V (c + 1)) (V 73 2).toNat sf j) n.toNat ∧ (∀ j : Nat, (j : Int) < n → Z 74 j = wk_h (V (c + 1)) (V (c + 2)) (V (c + 3)) (V 73 1).toNat sv j ∧ Z 75 j = wk_s (V (c + 1)) (V 73 2).toNat sf j) := by
  obtain ⟨g, hg⟩ : ∃ g, g = wk_h (V (c + 1)) (V (c + 2)) (V (c + 3)) (V 73 1).toNat sv := ⟨_, rfl⟩
  obtain ⟨r, hr⟩ : ∃ r, r = wk_s (V (c + 1)) (V 73 2).toNat sf := ⟨_, rfl⟩
  rw [← hg] at hh ⊢
  rw [← hr] at hs ⊢
  have hp : ∀ j : Nat, (j : Int) < n → 0 ≤ g j * r j ∧ g j * r j ≤ 1000000000000 := fun j hj => by
    obtain ⟨p1, p2⟩ := hh j hj
    obtain ⟨p3, p4⟩ := hs j hj
    exact ⟨Int.mul_nonneg p1 p3, Int.mul_le_mul p2 p4 p3 (by decide)⟩
  have e := hZ.symm.trans (F_X10_spread_eq a1 a2 V)
  simp only [pf_let] at e
  let P : Int × pm_M → Prop := fun s => 0 ≤ s.1 ∧ s.1 ≤ n ∧ (∀ k i, k ≠ 73 → k ≠ 74 → k ≠ 75 → s.2 k i = V k i) ∧ s.2 73 0 = V 73 0 ∧ s.2 73 1 = V 73 1 ∧ s.2 73 2 = V 73 2 ∧ s.2 73 5 = sv ∧ s.2 73 6 = sf ∧ s.2 73 10 = wk_S g s.1.toNat ∧ s.2 73 11 = wk_S r s.1.toNat ∧ s.2 73 12 = wk_S (fun j => g j * r j) s.1.toNat ∧ (∀ j : Nat, (j : Int) < s.1 → s.2 74 j = g j ∧ s.2 75 j = r j)
  let Q : Int × pm_M → Prop := fun o => o.2 73 5 = sv ∧ o.2 73 6 = sf ∧ o.2 73 10 = wk_S g n.toNat ∧ o.2 73 11 = wk_S r n.toNat ∧ o.2 73 12 = wk_S (fun j => g j * r j) n.toNat ∧ (∀ j : Nat, (j : Int) < n → o.2 74 j = g j ∧ o.2 75 j = r j)
  have step : ∀ (B : Int × pm_M → (Int × pm_M) ⊕ (Int × pm_M)), (∀ (x : Int) (U : pm_M), U 73 0 = (c : Int) → B (x, U) = if U c 0 ≤ x then .inr (0, U) else .inl (x + 1, pm_up (pm_up (pm_up (pm_up (pm_up U 74 x.toNat (U (c + 3) x.toNat * pm_mx 0 (sv - (pm_ab (U (c + 1) x.toNat - U (c + 1) (U 73 1).toNat) + pm_ab (U (c + 2) x.toNat - U (c + 2) (U 73 1).toNat))))) 75 x.toNat (pm_mx 0 (sf - pm_ab (U (c + 1) x.toNat - U (c + 1) (U 73 2).toNat)))) 73 10 (pm_w64 (U 73 10 + U (c + 3) x.toNat * pm_mx 0 (sv - (pm_ab (U (c + 1) x.toNat - U (c + 1) (U 73 1).toNat) + pm_ab (U (c + 2) x.toNat - U (c + 2) (U 73 1).toNat)))))) 73 11 (pm_w64 (U 73 11 + pm_mx 0 (sf - pm_ab (U (c + 1) x.toNat - U (c + 1) (U 73 2).toNat))))) 73 12 (pm_w64 (U 73 12 + U (c + 3) x.toNat * pm_mx 0 (sv - (pm_ab (U (c + 1) x.toNat - U (c + 1) (U 73 1).toNat) + pm_ab (U (c + 2) x.toNat - U (c + 2) (U 73 1).toNat))) * pm_mx 0 (sf - pm_ab (U (c + 1) x.toNat - U (c + 1) (U 73 2).toNat)))))) → ∀ (d : Int × pm_M), Q (pf_val d B (0, pm_up (pm_up (pm_up (pm_up (pm_up V 73 5 sv) 73 6 sf) 73 10 0) 73 11 0) 73 12 0)) := by
    intro B hB d
    refine pf_val_ind2 (d := d) (b := B) P Q (fun s => (n - s.1).toNat) ?_ _ ⟨Int.le_refl _, hn9.1, fun k i q1 _ _ => ?_, ?_, ?_, ?_, ?_, ?_, ?_, ?_, ?_, fun j hj => absurd hj (by dsimp only; omega)⟩
    · rintro ⟨x, U⟩ ⟨p0, p1, p2, p3, p4, p5, p6, p7, p8, p9, p10, p11⟩
      dsimp only at p0 p1 p2 p3 p4 p5 p6 p7 p8 p9 p10 p11
      have b0 := hB x U (p3.trans h0)
      rw [p2 c 0 (by omega) (by omega) (by omega), hn] at b0
      by_cases q : n ≤ x
      · rw [if_pos q] at b0
        have hx : x = n := by omega
        subst hx
        exact Or.inr ⟨_, b0, p6, p7, p8, p9, p10, p11⟩
      · rw [if_neg q] at b0
        have k0 : ∀ i, U (c + 1) i = V (c + 1) i := fun i => p2 (c + 1) i (by omega) (by omega) (by omega)
        have k2 : ∀ i, U (c + 2) i = V (c + 2) i := fun i => p2 (c + 2) i (by omega) (by omega) (by omega)
        have k3 : ∀ i, U (c + 3) i = V (c + 3) i := fun i => p2 (c + 3) i (by omega) (by omega) (by omega)
        have t1 : U (c + 3) x.toNat * pm_mx 0 (sv - (pm_ab (U (c + 1) x.toNat - U (c + 1) (U 73 1).toNat) + pm_ab (U (c + 2) x.toNat - U (c + 2) (U 73 1).toNat))) = g x.toNat := by
          rw [p4, k0, k0, k2, k2, k3, hg]
          rfl
        have t2 : pm_mx 0 (sf - pm_ab (U (c + 1) x.toNat - U (c + 1) (U 73 2).toNat)) = r x.toNat := by
          rw [p5, k0, k0, hr]
          rfl
        rw [t1, t2, p8, p9, p10] at b0
        have x1 : (x + 1).toNat = x.toNat + 1 := by omega
        obtain ⟨m1, m2⟩ := hh x.toNat (by omega)
        obtain ⟨m3, m4⟩ := hs x.toNat (by omega)
        obtain ⟨m5, m6⟩ := hp x.toNat (by omega)
        have s1 := wk_S_b (g := g) (M := 1000000) (by decide) x.toNat (fun j hj => hh j (by omega))
        have s2 := wk_S_b (g := r) (M := 1000000) (by decide) x.toNat (fun j hj => hs j (by omega))
        have s3 := wk_S_b (g := fun j => g j * r j) (M := 1000000000000) (by decide) x.toNat (fun j hj => hp j (by omega))
        have w1 : pm_w64 (wk_S g x.toNat + g x.toNat) = wk_S g (x + 1).toNat := by
          rw [x1]
          exact pm_w64_id ⟨by omega, by omega⟩
        have w2 : pm_w64 (wk_S r x.toNat + r x.toNat) = wk_S r (x + 1).toNat := by
          rw [x1]
          exact pm_w64_id ⟨by omega, by omega⟩
        have w3 : pm_w64 (wk_S (fun j => g j * r j) x.toNat + g x.toNat * r x.toNat) = wk_S (fun j => g j * r j) (x + 1).toNat := by
          rw [x1]
          exact pm_w64_id ⟨by omega, by omega⟩
        rw [w1, w2, w3] at b0
        refine Or.inl ⟨_, b0, ⟨by dsimp only; omega, by dsimp only; omega, fun k i q1 q2 q3 => ?_, ?_, ?_, ?_, ?_, ?_, ?_, ?_, ?_, fun j hj => ⟨?_, ?_⟩⟩, by dsimp only; omega⟩
        · dsimp only
          rw [pm_up_c q1, pm_up_c q1, pm_up_c q1, pm_up_c q3, pm_up_c q2]
          exact p2 k i q1 q2 q3
        · dsimp only
          rw [pm_up_i (by decide), pm_up_i (by decide), pm_up_i (by decide), pm_up_c (by decide), pm_up_c (by decide)]
          exact p3
        · dsimp only
          rw [pm_up_i (by decide), pm_up_i (by decide), pm_up_i (by decide), pm_up_c (by decide), pm_up_c (by decide)]
          exact p4
        · dsimp only
          rw [pm_up_i (by decide), pm_up_i (by decide), pm_up_i (by decide), pm_up_c (by decide), pm_up_c (by decide)]
          exact p5
        · dsimp only
          rw [pm_up_i (by decide), pm_up_i (by decide), pm_up_i (by decide), pm_up_c (by decide), pm_up_c (by decide)]
          exact p6
        · dsimp only
          rw [pm_up_i (by decide), pm_up_i (by decide), pm_up_i (by decide), pm_up_c (by decide), pm_up_c (by decide)]
          exact p7
        · dsimp only
          rw [pm_up_i (by decide), pm_up_i (by decide), pm_up_s]
        · dsimp only
          rw [pm_up_i (by decide), pm_up_s]
        · dsimp only
          rw [pm_up_s]
        · dsimp only at hj ⊢
          rw [pm_up_c (by decide), pm_up_c (by decide), pm_up_c (by decide), pm_up_c (by decide), up_at]
          by_cases ej : j = x.toNat
          · rw [if_pos ej, ej]
          · rw [if_neg ej]
            exact (p11 j (by omega)).1
        · dsimp only at hj ⊢
          rw [pm_up_c (by decide), pm_up_c (by decide), pm_up_c (by decide), up_at]
          by_cases ej : j = x.toNat
          · rw [if_pos ej, ej]
          · rw [if_neg ej, pm_up_c (by decide)]
            exact (p11 j (by omega)).2
    · dsimp only
      rw [pm_up_c q1, pm_up_c q1, pm_up_c q1, pm_up_c q1, pm_up_c q1]
    all_goals simp [pm_up, wk_S]
  rcases hc with rfl | rfl
  · replace e := e.trans (if_pos h0)
    rw [hv, hf] at e
    obtain ⟨B, hB, e⟩ := pf_loop e
    have key := step B (fun x U hU => by
      have far : ∀ a b : Int, F_X10_farFrom x a b U = (pm_ab (U 46 x.toNat - a) + pm_ab (U 47 x.toNat - b), U) := fun a b => (F_X10_farFrom_eq x a b U).trans (if_pos hU)
      have q := congrFun hB (x, U)
      dsimp only at q
      rw [far] at q
      exact q) (0, V)
    rw [← e] at key
    exact key
  · replace e := e.trans (if_neg (by omega))
    rw [hv, hf] at e
    obtain ⟨B, hB, e⟩ := pf_loop e
    have key := step B (fun x U hU => by
      have far : ∀ a b : Int, F_X10_farFrom x a b U = (pm_ab (U 52 x.toNat - a) + pm_ab (U 53 x.toNat - b), U) := fun a b => (F_X10_farFrom_eq x a b U).trans (if_neg (by omega))
      have q := congrFun hB (x, U)
      dsimp only at q
      rw [far] at q
      exact q) (0, V)
    rw [← e] at key
    exact key
