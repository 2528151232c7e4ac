/-! THE REFERENCE'S PRODUCTS, by their digits -/
def rd (W : pm_M) (r k : Nat) : Int := W 113 (300 * r + k)
/-- row r holds v -/
def rk (W : pm_M) (r n v : Nat) : Prop := W 114 r = (n : Int) ∧ dg_ok 10000 (rd W r) n v
/-- all but row R is as it was -/
def rq_f (R : Nat) (W U : pm_M) : Prop := (∀ k, k ≠ 113 → k ≠ 114 → U k = W k) ∧ (∀ r, r ≠ R → U 114 r = W 114 r) ∧ ∀ i, i < 300 * R ∨ 300 * R + 300 ≤ i → U 113 i = W 113 i
theorem rq_f.rf {R : Nat} {W : pm_M} : rq_f R W W := ⟨fun _ _ _ => rfl, fun _ _ => rfl, fun _ _ => rfl⟩
theorem rq_f.tr {R : Nat} {W U X : pm_M} (h : rq_f R W U) (h1 : rq_f R U X) : rq_f R W X := ⟨fun k a b => (h1.1 k a b).trans (h.1 k a b), fun r a => (h1.2.1 r a).trans (h.2.1 r a), fun i a => (h1.2.2 i a).trans (h.2.2 i a)⟩
theorem rq_f.d {R i : Nat} {x : Int} {W U : pm_M} (h : rq_f R W U) (hi : 300 * R ≤ i ∧ i < 300 * R + 300) : rq_f R W (pm_up U 113 i x) := by
  refine ⟨fun k a b => (pm_up_f a).trans (h.1 k a b), fun r a => ?_, fun j a => ?_⟩
  · rw [pm_up_c (by decide)]
    exact h.2.1 r a
  · rw [pm_up_i (by omega)]
    exact h.2.2 j a
theorem rq_f.p {R : Nat} {x : Int} {W U : pm_M} (h : rq_f R W U) : rq_f R W (pm_up U 114 R x) := by
  refine ⟨fun k a b => (pm_up_f b).trans (h.1 k a b), fun r a => ?_, fun j a => ?_⟩
  · rw [pm_up_i a]
    exact h.2.1 r a
  · rw [pm_up_c (by decide)]
    exact h.2.2 j a
theorem rk.fr {R r n v : Nat} {W U : pm_M} (h : rk W r n v) (f : rq_f R W U) (hr : r ≠ R) (hn : n ≤ 300) : rk U r n v := by
  refine ⟨(f.2.1 r hr).trans h.1, h.2.fr fun k hk => ?_⟩
  show U 113 (300 * r + k) = W 113 (300 * r + k)
  exact f.2.2 _ (by omega)
theorem dg_up {B : Nat} {f g : Nat → Int} {p : Nat} : ∀ m : Nat, p < m → (∀ k, k ≠ p → g k = f k) → dg_v B g m + (f p).toNat * B ^ p = dg_v B f m + (g p).toNat * B ^ p := by
  intro m
  induction m with
  | zero => intro h; omega
  | succ m ih =>
    intro h hk
    show dg_v B g m + (g m).toNat * B ^ m + _ = dg_v B f m + (f m).toNat * B ^ m + _
    by_cases q : p = m
    · rw [q, dg_eq (f := g) (g := f) m fun k k1 => hk k (by omega)]
      omega
    · have h1 := ih (by omega) hk
      rw [hk m (fun e => q e.symm)]
      omega
theorem dg_le {B : Nat} {f : Nat → Int} {n m : Nat} (h : n ≤ m) : dg_v B f n ≤ dg_v B f m := by
  induction m with
  | zero =>
    have e : n = 0 := by omega
    rw [e]
    exact Nat.le_refl _
  | succ m ih =>
    by_cases q : n = m + 1
    · rw [q]
      exact Nat.le_refl _
    · exact Nat.le_trans (ih (by omega)) (Nat.le_add_right _ _)
theorem dg_top {B : Nat} {f : Nat → Int} {n : Nat} (h1 : 1 ≤ n) (h : 1 ≤ f (n - 1)) : B ^ (n - 1) ≤ dg_v B f n := by
  obtain ⟨m, rfl⟩ : ∃ m, n = m + 1 := ⟨n - 1, by omega⟩
  rw [Nat.add_sub_cancel] at h ⊢
  show B ^ m ≤ dg_v B f m + (f m).toNat * B ^ m
  have h2 : 1 * B ^ m ≤ (f m).toNat * B ^ m := Nat.mul_le_mul_right _ (by omega)
  omega
theorem dg_z {B : Nat} {f : Nat → Int} {n : Nat} (h1 : 1 ≤ n) (h : f (n - 1) = 0) : dg_v B f n = dg_v B f (n - 1) := by
  obtain ⟨m, rfl⟩ : ∃ m, n = m + 1 := ⟨n - 1, by omega⟩
  rw [Nat.add_sub_cancel] at h ⊢
  show dg_v B f m + (f m).toNat * B ^ m = _
  rw [h, Int.toNat_zero, Nat.zero_mul, Nat.add_zero]
theorem dg_0 {B : Nat} {f : Nat → Int} : ∀ m : Nat, (∀ k, k < m → f k = 0) → dg_v B f m = 0 := by
  intro m
  induction m with
  | zero => intro _; rfl
  | succ m ih =>
    intro h
    show dg_v B f m + (f m).toNat * B ^ m = 0
    rw [ih fun k hk => h k (by omega), h m (by omega), Int.toNat_zero, Nat.zero_mul]
/-- few digits where the number is small -/
theorem dg_ok.few {f : Nat → Int} {n v m : Nat} (h : dg_ok 10000 f n v) (hv : v < 10000 ^ m) : n ≤ m + 1 := by
  rcases h.2.2.2 with q | q
  · omega
  · rcases Nat.lt_or_ge m (n - 1) with c | c
    · exfalso
      have h1 : 10000 ^ m ≤ 10000 ^ (n - 1) := Nat.pow_le_pow_right (by decide) (by omega)
      omega
    · omega
theorem rk_one0 {W Z : pm_M} {z : Int} (hZ : F_X12_ones_d0 W = (z, Z)) : rk Z 0 1 1 ∧ rq_f 0 W Z := by
  have e := ((((hZ.symm.trans (F_X12_ones_d0_eq W)).trans (pf_let_eq rfl)).trans (pf_let_eq rfl)).trans (pf_let_eq rfl)).trans (pf_let_eq rfl)
  have e2 : Z = pm_up (pm_up W 114 0 1) 113 0 1 := (Prod.mk.inj e).2
  have e3 : rd Z 0 0 = 1 := by
    show Z 113 (300 * 0 + 0) = 1
    rw [e2]
    exact pm_up_s
  refine ⟨⟨by rw [e2, pm_up_c (by decide), pm_up_s]; rfl, by decide, ?_, ?_, Or.inl rfl⟩, ?_⟩
  · intro k hk
    have ek : k = 0 := by omega
    rw [ek, e3]
    decide
  · show 0 + (rd Z 0 0).toNat * 10000 ^ 0 = 1
    rw [e3]
    rfl
  · rw [e2]
    exact rq_f.rf.p.d (by decide)
theorem rk_mul0 {W Z : pm_M} {z a : Int} {n v : Nat} (h : rk W 0 n v) (hn : n ≤ 290) (ha : 0 ≤ a ∧ a ≤ 999999999) (hZ : F_X12_multiplies_d0 a W = (z, Z)) : ∃ m, rk Z 0 m (v * a.toNat) ∧ rq_f 0 W Z := by
  have e := (((hZ.symm.trans (F_X12_multiplies_d0_eq a W)).trans (pf_let_eq h.1)).trans (pf_let_eq rfl)).trans (pf_let_eq rfl)
  replace e := e.trans (pf_let_eq rfl)
  obtain ⟨B, hB, e⟩ := pf_loop e
  have key := pf_val_ind2 (d := ((0 : Int), W)) (b := B) (fun q => 0 ≤ q.1 ∧ q.1 ≤ a ∧ 0 ≤ q.2.1 ∧ q.2.1 ≤ (n : Int) ∧ rq_f 0 W q.2.2 ∧ q.2.2 114 0 = (n : Int) ∧ (∀ k : Nat, q.2.1 ≤ (k : Int) → rd q.2.2 0 k = rd W 0 k) ∧ (∀ k : Nat, (k : Int) < q.2.1 → 0 ≤ rd q.2.2 0 k ∧ rd q.2.2 0 k < (10000 : Nat)) ∧ dg_v 10000 (rd q.2.2 0) q.2.1.toNat + q.1.toNat * 10000 ^ q.2.1.toNat = dg_v 10000 (rd W 0) q.2.1.toNat * a.toNat) (fun o => ∃ m, rk o.2 0 m (v * a.toNat) ∧ rq_f 0 W o.2) (fun q => ((n : Int) - q.2.1).toNat) ?_ (0, 0, W) ⟨Int.le_refl _, ha.1, Int.le_refl _, by dsimp only; omega, rq_f.rf, h.1, fun _ _ => rfl, fun k hk => absurd hk (by dsimp only; omega), by simp [dg_v]⟩
  · rw [← e] at key
    exact key
  · rintro ⟨x, j, U⟩ ⟨p0, p1, p2, p3, p4, p5, p6, p7, p8⟩
    dsimp only at p0 p1 p2 p3 p4 p5 p6 p7 p8
    have q1 := congrFun hB (x, j, U)
    simp only [] at q1
    by_cases c : (n : Int) ≤ j
    · have ej : j = (n : Int) := by omega
      subst ej
      rw [Int.toNat_natCast, h.2.2.2.1] at p8
      replace q1 := q1.trans (if_pos c)
      obtain ⟨B2, hB2, q1⟩ := pf_loop q1
      have key2 := pf_val_ind2 (d := (.inr ((0 : Int), W))) (b := B2) (fun q => ∃ m : Nat, n ≤ m ∧ m ≤ n + 3 ∧ 0 ≤ q.1 ∧ q.1.toNat < 10000 ^ (n + 3 - m) ∧ rq_f 0 W q.2 ∧ q.2 114 0 = (m : Int) ∧ (∀ k : Nat, k < m → 0 ≤ rd q.2 0 k ∧ rd q.2 0 k < (10000 : Nat)) ∧ dg_v 10000 (rd q.2 0) m + q.1.toNat * 10000 ^ m = v * a.toNat) (fun o => ∃ Z, o = .inr (0, Z) ∧ ∃ m, rk Z 0 m (v * a.toNat) ∧ rq_f 0 W Z) (fun q => (n + 3 : Int).toNat - (q.2 114 0).toNat) ?_ (x, U) ⟨n, Nat.le_refl _, by omega, p0, by rw [Nat.add_sub_cancel_left]; dsimp only; omega, p4, p5, fun k hk => p7 k (by omega), p8⟩
      · obtain ⟨Z', z1, z2⟩ := key2
        exact Or.inr ⟨_, q1.trans z1, z2⟩
      · rintro ⟨x, U⟩ ⟨m, m1, m2, r0, r1, r2, r3, r4, r5⟩
        dsimp only at r0 r1 r2 r3 r4 r5
        have q2 := congrFun hB2 (x, U)
        simp only [] at q2
        replace q2 := q2.trans (pf_let_eq rfl)
        by_cases c2 : x ≤ 0
        · have ex : x.toNat = 0 := by omega
          rw [ex, Nat.zero_mul, Nat.add_zero] at r5
          replace q2 := (q2.trans (if_pos (pm_cmp_le0.mpr c2))).trans (pf_let_eq rfl)
          obtain ⟨B3, hB3, q2⟩ := pf_loop q2
          have key3 := pf_val_ind2 (d := (.inr (.inr ((0 : Int), W)))) (b := B3) (fun q => ∃ m : Nat, 1 ≤ m ∧ m ≤ n + 3 ∧ rq_f 0 W q ∧ q 114 0 = (m : Int) ∧ (∀ k : Nat, k < m → 0 ≤ rd q 0 k ∧ rd q 0 k < (10000 : Nat)) ∧ dg_v 10000 (rd q 0) m = v * a.toNat) (fun o => ∃ Z, o = .inr (.inr (0, Z)) ∧ ∃ m, rk Z 0 m (v * a.toNat) ∧ rq_f 0 W Z) (fun q => (q 114 0).toNat) ?_ U ⟨m, Nat.le_trans h.2.1 m1, m2, r2, r3, r4, r5⟩
          · obtain ⟨Z', z1, z2⟩ := key3
            exact Or.inr ⟨_, q2.trans z1, Z', rfl, z2⟩
          · rintro U ⟨m, m1, m2, s0, s1, s2, s3⟩
            have q3 := congrFun hB3 U
            try simp only [] at q3
            replace q3 := q3.trans (pf_let_eq s1)
            by_cases c3 : (m : Int) ≤ 1
            · have em : m = 1 := by omega
              exact Or.inr ⟨_, q3.trans (if_pos c3), U, rfl, m, ⟨s1, m1, s2, s3, Or.inl em⟩, s0⟩
            · replace q3 := (q3.trans (if_neg c3)).trans (pf_let_eq (y := rd U 0 (m - 1)) (by show U 113 _ = U 113 _; congr 1; omega))
              by_cases c4 : rd U 0 (m - 1) = 0
              · replace q3 := q3.trans (if_neg (fun q => q c4))
                refine Or.inl ⟨_, q3, ⟨m - 1, by omega, by omega, s0.p, ?_, ?_, ?_⟩, ?_⟩
                · show pm_up U 114 0 _ 114 0 = _
                  rw [pm_up_s]
                  omega
                · intro k hk
                  have hk2 := s2 k (by omega)
                  show 0 ≤ pm_up U 114 0 _ 113 _ ∧ pm_up U 114 0 _ 113 _ < _
                  rw [pm_up_c (by decide)]
                  exact hk2
                · rw [← s3, dg_z (n := m) m1 c4]
                  exact dg_eq _ fun k _ => pm_up_c (by decide)
                · show (pm_up U 114 0 _ 114 0).toNat < (U 114 0).toNat
                  rw [pm_up_s, s1]
                  omega
              · replace q3 := q3.trans (if_pos c4)
                have ht := s2 (m - 1) (by omega)
                refine Or.inr ⟨_, q3, U, rfl, m, ⟨s1, m1, s2, s3, Or.inr ?_⟩, s0⟩
                rw [← s3]
                exact dg_top m1 (by omega)
        · replace q2 := ((q2.trans (if_neg (fun q => c2 (pm_cmp_le0.mp q)))).trans (pf_let_eq r3))
          have hm : m < n + 3 := by
            rcases Nat.lt_or_ge m (n + 3) with c3 | c3
            · exact c3
            · exfalso
              have e0 : n + 3 - m = 0 := by omega
              rw [e0, Nat.pow_zero] at r1
              omega
          have e1 : n + 3 - m = (n + 3 - (m + 1)) + 1 := by omega
          rw [e1, Nat.pow_succ] at r1
          have ei : (0 + (m : Int)).toNat = 300 * 0 + m := by omega
          obtain ⟨Y, hY⟩ : ∃ Y, pm_up (pm_up U 113 (0 + (m : Int)).toNat (x % 10000)) 114 0 ((m : Int) + 1) = Y := ⟨_, rfl⟩
          have q2' : B2 (x, U) = .inl (x / 10000, Y) := by
            rw [← hY]
            exact q2
          have yp : Y 114 0 = (m : Int) + 1 := by rw [← hY, pm_up_s]
          have ym : rd Y 0 m = x % 10000 := by
            show Y 113 (300 * 0 + m) = _
            rw [← hY, pm_up_c (by decide), ei, pm_up_s]
          have yo : ∀ k, k ≠ m → rd Y 0 k = rd U 0 k := fun k hk => by
            show Y 113 (300 * 0 + k) = U 113 (300 * 0 + k)
            rw [← hY, pm_up_c (by decide), ei, pm_up_i (by omega)]
          have yf : rq_f 0 W Y := by
            rw [← hY, ei]
            exact (r2.d (by omega)).p
          refine Or.inl ⟨_, q2', ⟨m + 1, by omega, by omega, by dsimp only; omega, ?_, yf, yp.trans (by omega), ?_, ?_⟩, ?_⟩
          · dsimp only
            have : (x / 10000).toNat * 10000 ≤ x.toNat := by omega
            exact Nat.lt_of_mul_lt_mul_right (Nat.lt_of_le_of_lt this r1)
          · intro k hk
            show 0 ≤ rd Y 0 k ∧ rd Y 0 k < _
            by_cases ek : k = m
            · rw [ek, ym]
              omega
            · rw [yo k ek]
              exact r4 k (by omega)
          · show dg_v 10000 (rd Y 0) m + (rd Y 0 m).toNat * 10000 ^ m + (x / 10000).toNat * 10000 ^ (m + 1) = _
            rw [ym, ← r5, dg_eq (g := rd U 0) m (fun k hk => yo k (by omega)), Nat.pow_succ, Nat.add_assoc]
            congr 1
            generalize 10000 ^ m = T
            have d1 : x.toNat = (x % 10000).toNat + (x / 10000).toNat * 10000 := by omega
            rw [Nat.mul_comm T 10000, ← Nat.mul_assoc, ← Nat.add_mul, ← d1]
          · show _ - (Y 114 0).toNat < _ - (U 114 0).toNat
            rw [yp, r3]
            omega
    · replace q1 := q1.trans (if_neg c)
      have hk := h.2.2.1 j.toNat (by omega)
      have ei : (0 + j).toNat = 300 * 0 + j.toNat := by omega
      have ek : U 113 (0 + j).toNat = rd W 0 j.toNat := by rw [ei]; exact p6 j.toNat (by omega)
      obtain ⟨g, hg⟩ : ∃ g, rd W 0 j.toNat = g := ⟨_, rfl⟩
      rw [hg] at hk ek
      have m1 : 0 ≤ g * a := Int.mul_nonneg hk.1 ha.1
      have m2 : g * a ≤ 9999 * a := Int.mul_le_mul_of_nonneg_right (by omega) ha.1
      replace q1 := ((q1.trans (pf_let_eq ek)).trans (pf_let_eq rfl)).trans (pf_let_eq rfl)
      rw [ei] at q1
      have ej : (j + 1).toNat = j.toNat + 1 := by omega
      refine Or.inl ⟨_, q1, ⟨?_, ?_, by dsimp only; omega, by dsimp only; omega, ?_, ?_, ?_, ?_, ?_⟩, by dsimp only; omega⟩
      · dsimp only
        omega
      · dsimp only
        omega
      · exact p4.d (by omega)
      · dsimp only
        rw [pm_up_c (by decide)]
        exact p5
      · intro k hk2
        dsimp only at hk2
        show pm_up U 113 _ _ 113 _ = _
        rw [pm_up_i (by omega)]
        exact p6 k (by omega)
      · intro k hk2
        dsimp only at hk2
        show 0 ≤ pm_up U 113 _ _ 113 _ ∧ pm_up U 113 _ _ 113 _ < _
        by_cases ek2 : k = j.toNat
        · rw [ek2, pm_up_s]
          omega
        · rw [pm_up_i (by omega)]
          exact p7 k (by omega)
      · dsimp only
        rw [ej]
        show dg_v _ _ j.toNat + (pm_up U 113 (300 * 0 + j.toNat) _ 113 (300 * 0 + j.toNat)).toNat * 10000 ^ j.toNat + _ * 10000 ^ (j.toNat + 1) = (dg_v _ _ j.toNat + (rd W 0 j.toNat).toNat * 10000 ^ j.toNat) * a.toNat
        rw [pm_up_s, hg, Nat.add_mul, ← p8, dg_eq (g := rd U 0) j.toNat (fun k hk2 => by
          show pm_up U 113 _ _ 113 _ = _
          rw [pm_up_i (by omega)]
          rfl)]
        have d1 : ((g * a + x) % 10000).toNat + ((g * a + x) / 10000).toNat * 10000 = g.toNat * a.toNat + x.toNat := by
          have d2 : ((g.toNat * a.toNat : Nat) : Int) = g * a := by rw [Int.natCast_mul, Int.toNat_of_nonneg hk.1, Int.toNat_of_nonneg ha.1]
          omega
        rw [Nat.pow_succ]
        generalize 10000 ^ j.toNat = T
        calc dg_v 10000 (rd U 0) j.toNat + ((g * a + x) % 10000).toNat * T + ((g * a + x) / 10000).toNat * (T * 10000)
            = dg_v 10000 (rd U 0) j.toNat + (((g * a + x) % 10000).toNat + ((g * a + x) / 10000).toNat * 10000) * T := by
              rw [Nat.add_mul, Nat.add_assoc, Nat.mul_assoc _ 10000 T, Nat.mul_comm T]
          _ = dg_v 10000 (rd U 0) j.toNat + x.toNat * T + g.toNat * T * a.toNat := by
              rw [d1, Nat.add_mul, Nat.mul_right_comm g.toNat a.toNat T]
              omega
theorem rk_one1 {W Z : pm_M} {z : Int} (hZ : F_X12_ones_d1 W = (z, Z)) : rk Z 1 1 1 ∧ rq_f 1 W Z := by
  have e := ((((hZ.symm.trans (F_X12_ones_d1_eq W)).trans (pf_let_eq rfl)).trans (pf_let_eq rfl)).trans (pf_let_eq rfl)).trans (pf_let_eq rfl)
  have e2 : Z = pm_up (pm_up W 114 1 1) 113 300 1 := (Prod.mk.inj e).2
  have e3 : rd Z 1 0 = 1 := by
    show Z 113 (300 * 1 + 0) = 1
    rw [e2]
    exact pm_up_s
  refine ⟨⟨by rw [e2, pm_up_c (by decide), pm_up_s]; rfl, by decide, ?_, ?_, Or.inl rfl⟩, ?_⟩
  · intro k hk
    have ek : k = 0 := by omega
    rw [ek, e3]
    decide
  · show 0 + (rd Z 1 0).toNat * 10000 ^ 0 = 1
    rw [e3]
    rfl
  · rw [e2]
    exact rq_f.rf.p.d (by decide)
theorem rk_mul1 {W Z : pm_M} {z a : Int} {n v : Nat} (h : rk W 1 n v) (hn : n ≤ 290) (ha : 0 ≤ a ∧ a ≤ 999999999) (hZ : F_X12_multiplies_d1 a W = (z, Z)) : ∃ m, rk Z 1 m (v * a.toNat) ∧ rq_f 1 W Z := by
  have e := (((hZ.symm.trans (F_X12_multiplies_d1_eq a W)).trans (pf_let_eq h.1)).trans (pf_let_eq rfl)).trans (pf_let_eq rfl)
  replace e := e.trans (pf_let_eq rfl)
  obtain ⟨B, hB, e⟩ := pf_loop e
  have key := pf_val_ind2 (d := ((0 : Int), W)) (b := B) (fun q => 0 ≤ q.1 ∧ q.1 ≤ a ∧ 0 ≤ q.2.1 ∧ q.2.1 ≤ (n : Int) ∧ rq_f 1 W q.2.2 ∧ q.2.2 114 1 = (n : Int) ∧ (∀ k : Nat, q.2.1 ≤ (k : Int) → rd q.2.2 1 k = rd W 1 k) ∧ (∀ k : Nat, (k : Int) < q.2.1 → 0 ≤ rd q.2.2 1 k ∧ rd q.2.2 1 k < (10000 : Nat)) ∧ dg_v 10000 (rd q.2.2 1) q.2.1.toNat + q.1.toNat * 10000 ^ q.2.1.toNat = dg_v 10000 (rd W 1) q.2.1.toNat * a.toNat) (fun o => ∃ m, rk o.2 1 m (v * a.toNat) ∧ rq_f 1 W o.2) (fun q => ((n : Int) - q.2.1).toNat) ?_ (0, 0, W) ⟨Int.le_refl _, ha.1, Int.le_refl _, by dsimp only; omega, rq_f.rf, h.1, fun _ _ => rfl, fun k hk => absurd hk (by dsimp only; omega), by simp [dg_v]⟩
  · rw [← e] at key
    exact key
  · rintro ⟨x, j, U⟩ ⟨p0, p1, p2, p3, p4, p5, p6, p7, p8⟩
    dsimp only at p0 p1 p2 p3 p4 p5 p6 p7 p8
    have q1 := congrFun hB (x, j, U)
    simp only [] at q1
    by_cases c : (n : Int) ≤ j
    · have ej : j = (n : Int) := by omega
      subst ej
      rw [Int.toNat_natCast, h.2.2.2.1] at p8
      replace q1 := q1.trans (if_pos c)
      obtain ⟨B2, hB2, q1⟩ := pf_loop q1
      have key2 := pf_val_ind2 (d := (.inr ((0 : Int), W))) (b := B2) (fun q => ∃ m : Nat, n ≤ m ∧ m ≤ n + 3 ∧ 0 ≤ q.1 ∧ q.1.toNat < 10000 ^ (n + 3 - m) ∧ rq_f 1 W q.2 ∧ q.2 114 1 = (m : Int) ∧ (∀ k : Nat, k < m → 0 ≤ rd q.2 1 k ∧ rd q.2 1 k < (10000 : Nat)) ∧ dg_v 10000 (rd q.2 1) m + q.1.toNat * 10000 ^ m = v * a.toNat) (fun o => ∃ Z, o = .inr (0, Z) ∧ ∃ m, rk Z 1 m (v * a.toNat) ∧ rq_f 1 W Z) (fun q => (n + 3 : Int).toNat - (q.2 114 1).toNat) ?_ (x, U) ⟨n, Nat.le_refl _, by omega, p0, by rw [Nat.add_sub_cancel_left]; dsimp only; omega, p4, p5, fun k hk => p7 k (by omega), p8⟩
      · obtain ⟨Z', z1, z2⟩ := key2
        exact Or.inr ⟨_, q1.trans z1, z2⟩
      · rintro ⟨x, U⟩ ⟨m, m1, m2, r0, r1, r2, r3, r4, r5⟩
        dsimp only at r0 r1 r2 r3 r4 r5
        have q2 := congrFun hB2 (x, U)
        simp only [] at q2
        replace q2 := q2.trans (pf_let_eq rfl)
        by_cases c2 : x ≤ 0
        · have ex : x.toNat = 0 := by omega
          rw [ex, Nat.zero_mul, Nat.add_zero] at r5
          replace q2 := (q2.trans (if_pos (pm_cmp_le0.mpr c2))).trans (pf_let_eq rfl)
          obtain ⟨B3, hB3, q2⟩ := pf_loop q2
          have key3 := pf_val_ind2 (d := (.inr (.inr ((0 : Int), W)))) (b := B3) (fun q => ∃ m : Nat, 1 ≤ m ∧ m ≤ n + 3 ∧ rq_f 1 W q ∧ q 114 1 = (m : Int) ∧ (∀ k : Nat, k < m → 0 ≤ rd q 1 k ∧ rd q 1 k < (10000 : Nat)) ∧ dg_v 10000 (rd q 1) m = v * a.toNat) (fun o => ∃ Z, o = .inr (.inr (0, Z)) ∧ ∃ m, rk Z 1 m (v * a.toNat) ∧ rq_f 1 W Z) (fun q => (q 114 1).toNat) ?_ U ⟨m, Nat.le_trans h.2.1 m1, m2, r2, r3, r4, r5⟩
          · obtain ⟨Z', z1, z2⟩ := key3
            exact Or.inr ⟨_, q2.trans z1, Z', rfl, z2⟩
          · rintro U ⟨m, m1, m2, s0, s1, s2, s3⟩
            have q3 := congrFun hB3 U
            try simp only [] at q3
            replace q3 := q3.trans (pf_let_eq s1)
            by_cases c3 : (m : Int) ≤ 1
            · have em : m = 1 := by omega
              exact Or.inr ⟨_, q3.trans (if_pos c3), U, rfl, m, ⟨s1, m1, s2, s3, Or.inl em⟩, s0⟩
            · replace q3 := (q3.trans (if_neg c3)).trans (pf_let_eq (y := rd U 1 (m - 1)) (by show U 113 _ = U 113 _; congr 1; omega))
              by_cases c4 : rd U 1 (m - 1) = 0
              · replace q3 := q3.trans (if_neg (fun q => q c4))
                refine Or.inl ⟨_, q3, ⟨m - 1, by omega, by omega, s0.p, ?_, ?_, ?_⟩, ?_⟩
                · show pm_up U 114 1 _ 114 1 = _
                  rw [pm_up_s]
                  omega
                · intro k hk
                  have hk2 := s2 k (by omega)
                  show 0 ≤ pm_up U 114 1 _ 113 _ ∧ pm_up U 114 1 _ 113 _ < _
                  rw [pm_up_c (by decide)]
                  exact hk2
                · rw [← s3, dg_z (n := m) m1 c4]
                  exact dg_eq _ fun k _ => pm_up_c (by decide)
                · show (pm_up U 114 1 _ 114 1).toNat < (U 114 1).toNat
                  rw [pm_up_s, s1]
                  omega
              · replace q3 := q3.trans (if_pos c4)
                have ht := s2 (m - 1) (by omega)
                refine Or.inr ⟨_, q3, U, rfl, m, ⟨s1, m1, s2, s3, Or.inr ?_⟩, s0⟩
                rw [← s3]
                exact dg_top m1 (by omega)
        · replace q2 := ((q2.trans (if_neg (fun q => c2 (pm_cmp_le0.mp q)))).trans (pf_let_eq r3))
          have hm : m < n + 3 := by
            rcases Nat.lt_or_ge m (n + 3) with c3 | c3
            · exact c3
            · exfalso
              have e0 : n + 3 - m = 0 := by omega
              rw [e0, Nat.pow_zero] at r1
              omega
          have e1 : n + 3 - m = (n + 3 - (m + 1)) + 1 := by omega
          rw [e1, Nat.pow_succ] at r1
          have ei : (300 + (m : Int)).toNat = 300 * 1 + m := by omega
          obtain ⟨Y, hY⟩ : ∃ Y, pm_up (pm_up U 113 (300 + (m : Int)).toNat (x % 10000)) 114 1 ((m : Int) + 1) = Y := ⟨_, rfl⟩
          have q2' : B2 (x, U) = .inl (x / 10000, Y) := by
            rw [← hY]
            exact q2
          have yp : Y 114 1 = (m : Int) + 1 := by rw [← hY, pm_up_s]
          have ym : rd Y 1 m = x % 10000 := by
            show Y 113 (300 * 1 + m) = _
            rw [← hY, pm_up_c (by decide), ei, pm_up_s]
          have yo : ∀ k, k ≠ m → rd Y 1 k = rd U 1 k := fun k hk => by
            show Y 113 (300 * 1 + k) = U 113 (300 * 1 + k)
            rw [← hY, pm_up_c (by decide), ei, pm_up_i (by omega)]
          have yf : rq_f 1 W Y := by
            rw [← hY, ei]
            exact (r2.d (by omega)).p
          refine Or.inl ⟨_, q2', ⟨m + 1, by omega, by omega, by dsimp only; omega, ?_, yf, yp.trans (by omega), ?_, ?_⟩, ?_⟩
          · dsimp only
            have : (x / 10000).toNat * 10000 ≤ x.toNat := by omega
            exact Nat.lt_of_mul_lt_mul_right (Nat.lt_of_le_of_lt this r1)
          · intro k hk
            show 0 ≤ rd Y 1 k ∧ rd Y 1 k < _
            by_cases ek : k = m
            · rw [ek, ym]
              omega
            · rw [yo k ek]
              exact r4 k (by omega)
          · show dg_v 10000 (rd Y 1) m + (rd Y 1 m).toNat * 10000 ^ m + (x / 10000).toNat * 10000 ^ (m + 1) = _
            rw [ym, ← r5, dg_eq (g := rd U 1) m (fun k hk => yo k (by omega)), Nat.pow_succ, Nat.add_assoc]
            congr 1
            generalize 10000 ^ m = T
            have d1 : x.toNat = (x % 10000).toNat + (x / 10000).toNat * 10000 := by omega
            rw [Nat.mul_comm T 10000, ← Nat.mul_assoc, ← Nat.add_mul, ← d1]
          · show _ - (Y 114 1).toNat < _ - (U 114 1).toNat
            rw [yp, r3]
            omega
    · replace q1 := q1.trans (if_neg c)
      have hk := h.2.2.1 j.toNat (by omega)
      have ei : (300 + j).toNat = 300 * 1 + j.toNat := by omega
      have ek : U 113 (300 + j).toNat = rd W 1 j.toNat := by rw [ei]; exact p6 j.toNat (by omega)
      obtain ⟨g, hg⟩ : ∃ g, rd W 1 j.toNat = g := ⟨_, rfl⟩
      rw [hg] at hk ek
      have m1 : 0 ≤ g * a := Int.mul_nonneg hk.1 ha.1
      have m2 : g * a ≤ 9999 * a := Int.mul_le_mul_of_nonneg_right (by omega) ha.1
      replace q1 := ((q1.trans (pf_let_eq ek)).trans (pf_let_eq rfl)).trans (pf_let_eq rfl)
      rw [ei] at q1
      have ej : (j + 1).toNat = j.toNat + 1 := by omega
      refine Or.inl ⟨_, q1, ⟨?_, ?_, by dsimp only; omega, by dsimp only; omega, ?_, ?_, ?_, ?_, ?_⟩, by dsimp only; omega⟩
      · dsimp only
        omega
      · dsimp only
        omega
      · exact p4.d (by omega)
      · dsimp only
        rw [pm_up_c (by decide)]
        exact p5
      · intro k hk2
        dsimp only at hk2
        show pm_up U 113 _ _ 113 _ = _
        rw [pm_up_i (by omega)]
        exact p6 k (by omega)
      · intro k hk2
        dsimp only at hk2
        show 0 ≤ pm_up U 113 _ _ 113 _ ∧ pm_up U 113 _ _ 113 _ < _
        by_cases ek2 : k = j.toNat
        · rw [ek2, pm_up_s]
          omega
        · rw [pm_up_i (by omega)]
          exact p7 k (by omega)
      · dsimp only
        rw [ej]
        show dg_v _ _ j.toNat + (pm_up U 113 (300 * 1 + j.toNat) _ 113 (300 * 1 + j.toNat)).toNat * 10000 ^ j.toNat + _ * 10000 ^ (j.toNat + 1) = (dg_v _ _ j.toNat + (rd W 1 j.toNat).toNat * 10000 ^ j.toNat) * a.toNat
        rw [pm_up_s, hg, Nat.add_mul, ← p8, dg_eq (g := rd U 1) j.toNat (fun k hk2 => by
          show pm_up U 113 _ _ 113 _ = _
          rw [pm_up_i (by omega)]
          rfl)]
        have d1 : ((g * a + x) % 10000).toNat + ((g * a + x) / 10000).toNat * 10000 = g.toNat * a.toNat + x.toNat := by
          have d2 : ((g.toNat * a.toNat : Nat) : Int) = g * a := by rw [Int.natCast_mul, Int.toNat_of_nonneg hk.1, Int.toNat_of_nonneg ha.1]
          omega
        rw [Nat.pow_succ]
        generalize 10000 ^ j.toNat = T
        calc dg_v 10000 (rd U 1) j.toNat + ((g * a + x) % 10000).toNat * T + ((g * a + x) / 10000).toNat * (T * 10000)
            = dg_v 10000 (rd U 1) j.toNat + (((g * a + x) % 10000).toNat + ((g * a + x) / 10000).toNat * 10000) * T := by
              rw [Nat.add_mul, Nat.add_assoc, Nat.mul_assoc _ 10000 T, Nat.mul_comm T]
          _ = dg_v 10000 (rd U 1) j.toNat + x.toNat * T + g.toNat * T * a.toNat := by
              rw [d1, Nat.add_mul, Nat.mul_right_comm g.toNat a.toNat T]
              omega
