/-! WEIGHTS: the reference's loop in closed form -/
theorem rw_sums {V S Z : pm_M} {z n sv sf v f : Int} {B : Int × pm_M → (Int × pm_M) ⊕ (Int × pm_M)} (hB : ∀ (x : Int) (U : pm_M), B (x, U) = if n ≤ x then .inr (0, U) else .inl (x + 1, wk_U3 sv sf v f x U)) (hn : 0 ≤ n) (hv : 0 ≤ v ∧ v < n) (hf : 0 ≤ f ∧ f < n) (hb : ∀ q : Nat, (q : Int) < 3 * n → 0 ≤ S 97 q ∧ S 97 q ≤ 99) (z4 : S 90 44 = 0) (z5 : S 90 45 = 0) (z6 : S 90 46 = 0) (he : (z, Z) = pf_val ((0 : Int), V) B (0, S)) : Z 90 44 = wk_S (wk_h (fun j => S 97 (3 * j)) (fun j => S 97 (3 * j + 1)) (fun j => S 97 (3 * j + 2)) v.toNat sv) n.toNat ∧ Z 90 45 = wk_S (wk_s (fun j => S 97 (3 * j)) f.toNat sf) n.toNat ∧ Z 90 46 = wk_S (fun j => wk_h (fun j => S 97 (3 * j)) (fun j => S 97 (3 * j + 1)) (fun j => S 97 (3 * j + 2)) v.toNat sv j * wk_s (fun j => S 97 (3 * j)) f.toNat sf j) n.toNat ∧ (∀ j : Nat, (j : Int) < n → Z 110 j = wk_h (fun j => S 97 (3 * j)) (fun j => S 97 (3 * j + 1)) (fun j => S 97 (3 * j + 2)) v.toNat sv j ∧ Z 111 j = wk_s (fun j => S 97 (3 * j)) f.toNat sf j) ∧ (∀ k i, k ≠ 90 → k ≠ 110 → k ≠ 111 → Z k i = S k i) ∧ (∀ i, i ≠ 44 → i ≠ 45 → i ≠ 46 → Z 90 i = S 90 i) := by
  obtain ⟨g, hg⟩ : ∃ g, g = wk_h (fun j => S 97 (3 * j)) (fun j => S 97 (3 * j + 1)) (fun j => S 97 (3 * j + 2)) v.toNat sv := ⟨_, rfl⟩
  obtain ⟨r, hr⟩ : ∃ r, r = wk_s (fun j => S 97 (3 * j)) f.toNat sf := ⟨_, rfl⟩
  rw [← hg, ← hr]
  have key := pf_val_ind2 (d := ((0 : Int), V)) (b := B) (fun s => 0 ≤ s.1 ∧ s.1 ≤ n ∧ (∀ k i, k ≠ 90 → k ≠ 110 → k ≠ 111 → s.2 k i = S k i) ∧ (∀ i, i ≠ 44 → i ≠ 45 → i ≠ 46 → s.2 90 i = S 90 i) ∧ s.2 90 44 = wk_S g s.1.toNat ∧ s.2 90 45 = wk_S r s.1.toNat ∧ s.2 90 46 = wk_S (fun j => g j * r j) s.1.toNat ∧ (∀ j : Nat, (j : Int) < s.1 → s.2 110 j = g j ∧ s.2 111 j = r j)) (fun o => o.2 90 44 = wk_S g n.toNat ∧ o.2 90 45 = wk_S r n.toNat ∧ o.2 90 46 = wk_S (fun j => g j * r j) n.toNat ∧ (∀ j : Nat, (j : Int) < n → o.2 110 j = g j ∧ o.2 111 j = r j) ∧ (∀ k i, k ≠ 90 → k ≠ 110 → k ≠ 111 → o.2 k i = S k i) ∧ (∀ i, i ≠ 44 → i ≠ 45 → i ≠ 46 → o.2 90 i = S 90 i)) (fun s => (n - s.1).toNat) ?_ (0, S) ⟨Int.le_refl _, hn, fun _ _ _ _ _ => rfl, fun _ _ _ _ => rfl, z4, z5, z6, fun j hj => absurd hj (by dsimp only; omega)⟩
  · rw [← he] at key
    exact key
  · rintro ⟨x, U⟩ ⟨p0, p1, p2, p3, p4, p5, p6, p7⟩
    dsimp only at p0 p1 p2 p3 p4 p5 p6 p7
    have b0 := hB x U
    by_cases q : n ≤ x
    · rw [if_pos q] at b0
      have hx : x = n := by omega
      subst hx
      exact Or.inr ⟨_, b0, p4, p5, p6, p7, p2, p3⟩
    · rw [if_neg q] at b0
      have k97 : ∀ i, U 97 i = S 97 i := fun i => p2 97 i (by decide) (by decide) (by decide)
      have i0 : (3 * x).toNat = 3 * x.toNat := by omega
      have i1 : ((3 * x) + 1).toNat = 3 * x.toNat + 1 := by omega
      have i2 : ((3 * x) + 2).toNat = 3 * x.toNat + 2 := by omega
      have v0 : (3 * v).toNat = 3 * v.toNat := by omega
      have v1 : ((3 * v) + 1).toNat = 3 * v.toNat + 1 := by omega
      have f0 : (3 * f).toNat = 3 * f.toNat := by omega
      have n0 := hb (3 * x.toNat) (by omega)
      have n1 := hb (3 * x.toNat + 1) (by omega)
      have n2 := hb (3 * x.toNat + 2) (by omega)
      have n3 := hb (3 * v.toNat) (by omega)
      have n4 := hb (3 * v.toNat + 1) (by omega)
      have n5 := hb (3 * f.toNat) (by omega)
      have t1 : pm_mx 0 (U 97 ((3 * x) + 2).toNat * ((sv - wk_a (U 97 (3 * x).toNat - U 97 (3 * v).toNat)) - wk_a (U 97 ((3 * x) + 1).toNat - U 97 ((3 * v) + 1).toNat))) = g x.toNat := by
        rw [i0, i1, i2, v0, v1, k97, k97, k97, k97, k97, wk_ab ⟨by omega, by omega⟩, wk_ab ⟨by omega, by omega⟩, wk_mul n2.1, hg]
        rfl
      have t2 : pm_mx 0 (sf - wk_a (wk_U1 sv v x U 97 (3 * x).toNat - wk_U1 sv v x U 97 (3 * f).toNat)) = r x.toNat := by
        unfold wk_U1
        rw [pm_up_c (by decide), pm_up_c (by decide), i0, f0, k97, k97, wk_ab ⟨by omega, by omega⟩, hr]
        rfl
      have t3 : wk_U2 sv sf v f x U = pm_up (pm_up U 110 x.toNat (g x.toNat)) 111 x.toNat (r x.toNat) := by
        unfold wk_U2
        rw [t2]
        unfold wk_U1
        rw [t1]
      have t4 : wk_U3 sv sf v f x U = pm_up (pm_up (pm_up (pm_up (pm_up U 110 x.toNat (g x.toNat)) 111 x.toNat (r x.toNat)) 90 44 (U 90 44 + g x.toNat)) 90 45 (U 90 45 + r x.toNat)) 90 46 (U 90 46 + g x.toNat * r x.toNat) := by
        unfold wk_U3
        rw [t3, pm_up_c (a := 110) (by decide), pm_up_s, pm_up_s]
      rw [t4, p4, p5, p6] at b0
      have x1 : (x + 1).toNat = x.toNat + 1 := by omega
      refine Or.inl ⟨_, b0, ⟨by dsimp only; omega, by dsimp only; omega, fun k i q1 q2 q3 => ?_, fun i q1 q2 q3 => ?_, ?_, ?_, ?_, fun j hj => ⟨?_, ?_⟩⟩, by dsimp only; omega⟩
      · dsimp only
        rw [pm_up_c q1, pm_up_c q1, pm_up_c q1, pm_up_c q3, pm_up_c q2]
        exact p2 k i q1 q2 q3
      · dsimp only
        rw [pm_up_i q3, pm_up_i q2, pm_up_i q1, pm_up_c (by decide), pm_up_c (by decide)]
        exact p3 i q1 q2 q3
      · dsimp only
        rw [pm_up_i (by decide), pm_up_i (by decide), pm_up_s, x1]
        rfl
      · dsimp only
        rw [pm_up_i (by decide), pm_up_s, x1]
        rfl
      · dsimp only
        rw [pm_up_s, x1]
        rfl
      · dsimp only at hj ⊢
        rw [pm_up_c (by decide), pm_up_c (by decide), pm_up_c (by decide), pm_up_c (by decide), up_at]
        by_cases ej : j = x.toNat
        · rw [if_pos ej, ej]
        · rw [if_neg ej]
          exact (p7 j (by omega)).1
      · dsimp only at hj ⊢
        rw [pm_up_c (by decide), pm_up_c (by decide), pm_up_c (by decide), up_at]
        by_cases ej : j = x.toNat
        · rw [if_pos ej, ej]
        · rw [if_neg ej, pm_up_c (by decide)]
          exact (p7 j (by omega)).2
