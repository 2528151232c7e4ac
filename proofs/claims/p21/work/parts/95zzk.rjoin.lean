/-! THE REFERENCE'S PRODUCTS: copied, joined, compared -/
theorem rk_cop2 {W Z : pm_M} {z : Int} {n v : Nat} (h : rk W 0 n v) (hn : n ≤ 300) (hZ : F_X12_copies_d0_2 W = (z, Z)) : rk Z 2 n v ∧ rq_f 2 W Z := by
  have e := hZ.symm.trans (F_X12_copies_d0_2_eq W)
  replace e := ((((e.trans (pf_let_eq h.1)).trans (pf_let_eq rfl)).trans (pf_let_eq rfl)).trans (pf_let_eq rfl)).trans (pf_let_eq rfl)
  obtain ⟨B, hB, e⟩ := pf_loop e
  have key := pf_val_ind2 (d := ((0 : Int), W)) (b := B) (fun q => 0 ≤ q.1 ∧ q.1 ≤ (n : Int) ∧ rq_f 2 W q.2 ∧ q.2 114 2 = (n : Int) ∧ ∀ k : Nat, (k : Int) < q.1 → rd q.2 2 k = rd W 0 k) (fun o => rk o.2 2 n v ∧ rq_f 2 W o.2) (fun q => ((n : Int) - q.1).toNat) ?_ (0, pm_up W 114 2 n) ⟨Int.le_refl _, by dsimp only; omega, rq_f.rf.p, by dsimp only; rw [pm_up_s], fun k hk => absurd hk (by dsimp only; omega)⟩
  · have e9 : (z, Z) = pf_val ((0 : Int), W) B (0, pm_up W 114 2 n) := e
    rw [← e9] at key
    exact key
  · rintro ⟨j, U⟩ ⟨p0, p1, p2, p3, p4⟩
    dsimp only at p0 p1 p2 p3 p4
    have q1 := congrFun hB (j, U)
    simp only [] at q1
    by_cases c : (n : Int) ≤ j
    · exact Or.inr ⟨_, q1.trans (if_pos c), ⟨p3, h.2.fr fun k hk => p4 k (by omega)⟩, p2⟩
    · have ei : (0 + j).toNat = 300 * 0 + j.toNat := by omega
      have eo : (600 + j).toNat = 300 * 2 + j.toNat := by omega
      have ev : U 113 (0 + j).toNat = rd W 0 j.toNat := by
        rw [ei]
        exact p2.2.2 _ (by omega)
      replace q1 := ((q1.trans (if_neg c)).trans (pf_let_eq ev)).trans (pf_let_eq rfl)
      rw [eo] at q1
      refine Or.inl ⟨_, q1, ⟨by dsimp only; omega, by dsimp only; omega, p2.d (by omega), ?_, ?_⟩, by dsimp only; omega⟩
      · dsimp only
        rw [pm_up_c (by decide)]
        exact p3
      · intro k hk
        dsimp only at hk
        show pm_up U 113 _ _ 113 _ = _
        by_cases ek : k = j.toNat
        · rw [ek, pm_up_s]
        · rw [pm_up_i (by omega)]
          exact p4 k (by omega)
theorem rk_cop3 {W Z : pm_M} {z : Int} {n v : Nat} (h : rk W 1 n v) (hn : n ≤ 300) (hZ : F_X12_copies_d1_3 W = (z, Z)) : rk Z 3 n v ∧ rq_f 3 W Z := by
  have e := hZ.symm.trans (F_X12_copies_d1_3_eq W)
  replace e := ((((e.trans (pf_let_eq rfl)).trans (pf_let_eq h.1)).trans (pf_let_eq rfl)).trans (pf_let_eq rfl)).trans (pf_let_eq rfl)
  obtain ⟨B, hB, e⟩ := pf_loop e
  have key := pf_val_ind2 (d := ((0 : Int), W)) (b := B) (fun q => 0 ≤ q.1 ∧ q.1 ≤ (n : Int) ∧ rq_f 3 W q.2 ∧ q.2 114 3 = (n : Int) ∧ ∀ k : Nat, (k : Int) < q.1 → rd q.2 3 k = rd W 1 k) (fun o => rk o.2 3 n v ∧ rq_f 3 W o.2) (fun q => ((n : Int) - q.1).toNat) ?_ (0, pm_up W 114 3 n) ⟨Int.le_refl _, by dsimp only; omega, rq_f.rf.p, by dsimp only; rw [pm_up_s], fun k hk => absurd hk (by dsimp only; omega)⟩
  · have e9 : (z, Z) = pf_val ((0 : Int), W) B (0, pm_up W 114 3 n) := e
    rw [← e9] at key
    exact key
  · rintro ⟨j, U⟩ ⟨p0, p1, p2, p3, p4⟩
    dsimp only at p0 p1 p2 p3 p4
    have q1 := congrFun hB (j, U)
    simp only [] at q1
    by_cases c : (n : Int) ≤ j
    · exact Or.inr ⟨_, q1.trans (if_pos c), ⟨p3, h.2.fr fun k hk => p4 k (by omega)⟩, p2⟩
    · have ei : (300 + j).toNat = 300 * 1 + j.toNat := by omega
      have eo : (900 + j).toNat = 300 * 3 + j.toNat := by omega
      have ev : U 113 (300 + j).toNat = rd W 1 j.toNat := by
        rw [ei]
        exact p2.2.2 _ (by omega)
      replace q1 := ((q1.trans (if_neg c)).trans (pf_let_eq ev)).trans (pf_let_eq rfl)
      rw [eo] at q1
      refine Or.inl ⟨_, q1, ⟨by dsimp only; omega, by dsimp only; omega, p2.d (by omega), ?_, ?_⟩, by dsimp only; omega⟩
      · dsimp only
        rw [pm_up_c (by decide)]
        exact p3
      · intro k hk
        dsimp only at hk
        show pm_up U 113 _ _ 113 _ = _
        by_cases ek : k = j.toNat
        · rw [ek, pm_up_s]
        · rw [pm_up_i (by omega)]
          exact p4 k (by omega)
theorem rk_join4 {W Z : pm_M} {z : Int} {n m v w : Nat} (h : rk W 0 n v) (h2 : rk W 3 m w) (hn : n ≤ 145) (hm : m ≤ 145) (hZ : F_X12_joins_d0_3_4 W = (z, Z)) : ∃ k, rk Z 4 k (v * w) ∧ rq_f 4 W Z := by
  have e := hZ.symm.trans (F_X12_joins_d0_3_4_eq W)
  replace e := (((e.trans (pf_let_eq h.1)).trans (pf_let_eq h2.1)).trans (pf_let_eq rfl)).trans (pf_let_eq rfl)
  obtain ⟨B, hB, e⟩ := pf_loop e
  have v1 := dg_lt n h.2.2.1
  have w1 := dg_lt m h2.2.2.1
  rw [h.2.2.2.1] at v1
  rw [h2.2.2.2.1] at w1
  -- what the rows that are read hold, later on
  have rX : ∀ {U : pm_M}, rq_f 4 W U → ∀ k, k < 300 → rd U 0 k = rd W 0 k := fun f k hk => f.2.2 _ (by omega)
  have rY : ∀ {U : pm_M}, rq_f 4 W U → ∀ k, k < 300 → rd U 3 k = rd W 3 k := fun f k hk => f.2.2 _ (by omega)
  have key := pf_val_ind2 (d := ((0 : Int), W)) (b := B) (fun q => 0 ≤ q.1 ∧ q.1 ≤ (n : Int) + m ∧ rq_f 4 W q.2 ∧ ∀ k : Nat, (k : Int) < q.1 → rd q.2 4 k = 0) (fun o => ∃ k, rk o.2 4 k (v * w) ∧ rq_f 4 W o.2) (fun q => ((n : Int) + m - q.1).toNat) ?_ (0, W) ⟨Int.le_refl _, by dsimp only; omega, rq_f.rf, fun k hk => absurd hk (by dsimp only; omega)⟩
  · rw [← e] at key
    exact key
  · rintro ⟨j, U⟩ ⟨p0, p1, p2, p3⟩
    dsimp only at p0 p1 p2 p3
    have q1 := congrFun hB (j, U)
    simp only [] at q1
    by_cases c : (n : Int) + m ≤ j
    · replace q1 := q1.trans (if_pos c)
      obtain ⟨B2, hB2, q1⟩ := pf_loop q1
      have key2 := pf_val_ind2 (d := (.inr ((0 : Int), W))) (b := B2) (fun q => ∃ i : Nat, q.1 = (i : Int) ∧ i ≤ n ∧ rq_f 4 W q.2 ∧ (∀ k : Nat, k < n + m → 0 ≤ rd q.2 4 k ∧ rd q.2 4 k < (10000 : Nat)) ∧ dg_v 10000 (rd q.2 4) (n + m) = dg_v 10000 (rd W 0) i * w) (fun o => ∃ Z, o = .inr (0, Z) ∧ ∃ k, rk Z 4 k (v * w) ∧ rq_f 4 W Z) (fun q => ((n : Int) - q.1).toNat) ?_ (0, U) ⟨0, rfl, Nat.zero_le _, p2, fun k hk => by rw [p3 k (by omega)]; exact ⟨by decide, by decide⟩, by rw [dg_0 (n + m) fun k hk => p3 k (by omega)]; show 0 = 0 * w; omega⟩
      · obtain ⟨Z', z1, z2⟩ := key2
        exact Or.inr ⟨_, q1.trans z1, z2⟩
      · rintro ⟨i', U⟩ ⟨i, r0, r1, r2, r3, r4⟩
        dsimp only at r0 r2 r3 r4
        subst r0
        have q2 := congrFun hB2 ((i : Int), U)
        simp only [] at q2
        by_cases c2 : (n : Int) ≤ (i : Int)
        · have ein : i = n := by omega
          rw [ein, h.2.2.2.1] at r4
          replace q2 := q2.trans (if_pos c2)
          obtain ⟨B3, hB3, q2⟩ := pf_loop q2
          have key3 := pf_val_ind2 (d := (.inr (.inr ((0 : Int), W)))) (b := B3) (fun q => ∃ k : Nat, q = (k : Int) ∧ 1 ≤ k ∧ k ≤ n + m ∧ dg_v 10000 (rd U 4) k = v * w) (fun o => ∃ Z, o = .inr (.inr (0, Z)) ∧ ∃ k, rk Z 4 k (v * w) ∧ rq_f 4 W Z) (fun q => q.toNat) ?_ ((n : Int) + m) ⟨n + m, by omega, by have := h.2.1; omega, Nat.le_refl _, r4⟩
          · obtain ⟨Z', z1, z2⟩ := key3
            have q2' : B2 ((i : Int), U) = pf_val (.inr (.inr ((0 : Int), W))) B3 ((n : Int) + m) := q2
            exact Or.inr ⟨_, q2'.trans z1, Z', rfl, z2⟩
          · rintro k' ⟨k, rfl, k1, k2, k3⟩
            have q3 := congrFun hB3 (k : Int)
            try simp only [] at q3
            have fin : (k = 1 ∨ 10000 ^ (k - 1) ≤ v * w) → rk (pm_up U 114 4 (k : Int)) 4 k (v * w) ∧ rq_f 4 W (pm_up U 114 4 (k : Int)) := fun ht => ⟨⟨pm_up_s, k1, fun l hl => by
              show 0 ≤ pm_up U 114 4 _ 113 _ ∧ pm_up U 114 4 _ 113 _ < _
              rw [pm_up_c (by decide)]
              exact r3 l (by omega), (dg_eq k fun l _ => pm_up_c (by decide)).trans k3, ht⟩, r2.p⟩
            by_cases c3 : (k : Int) ≤ 1
            · exact Or.inr ⟨_, q3.trans (if_pos c3), _, rfl, k, fin (Or.inl (by omega))⟩
            · replace q3 := (q3.trans (if_neg c3)).trans (pf_let_eq (y := rd U 4 (k - 1)) (by show U 113 _ = U 113 _; congr 1; omega))
              by_cases c4 : rd U 4 (k - 1) = 0
              · replace q3 := (q3.trans (if_neg (fun q => q c4))).trans (pf_let_eq rfl)
                exact Or.inl ⟨_, q3, ⟨k - 1, by omega, by omega, by omega, by rw [← k3, dg_z k1 c4]⟩, by omega⟩
              · replace q3 := q3.trans (if_pos c4)
                have ht := r3 (k - 1) (by omega)
                exact Or.inr ⟨_, q3, _, rfl, k, fin (Or.inr (by rw [← k3]; exact dg_top k1 (by omega)))⟩
        · have hi : i < n := by omega
          replace q2 := q2.trans (if_neg c2)
          obtain ⟨d, hd⟩ : ∃ d, rd W 0 i = d := ⟨_, rfl⟩
          have hdr := h.2.2.1 i hi
          rw [hd] at hdr
          have etot : dg_v 10000 (rd W 0) (i + 1) * w = dg_v 10000 (rd U 4) (n + m) + d.toNat * 10000 ^ i * w := by
            show (dg_v 10000 (rd W 0) i + (rd W 0 i).toNat * 10000 ^ i) * w = _
            rw [hd, r4, Nat.add_mul]
          have htot : dg_v 10000 (rd W 0) (i + 1) * w < 10000 ^ (n + m) := by
            have a1 : dg_v 10000 (rd W 0) (i + 1) < 10000 ^ n := Nat.lt_of_le_of_lt (dg_le (show i + 1 ≤ n by omega)) (dg_lt n h.2.2.1)
            rw [Nat.pow_add]
            exact Nat.mul_lt_mul_of_le_of_lt (Nat.le_of_lt a1) w1 (Nat.pow_pos (by decide))
          rw [etot] at htot
          obtain ⟨T0, hT0⟩ : ∃ T0, dg_v 10000 (rd U 4) (n + m) = T0 := ⟨_, rfl⟩
          rw [hT0] at htot etot
          obtain ⟨B4, hB4, q2⟩ := pf_loop q2
          have key4 := pf_val_ind2 (d := (.inr (.inr ((0 : Int), W)))) (b := B4) (fun q => ∃ j : Nat, q.2.1 = (j : Int) ∧ 0 ≤ q.1 ∧ q.1 ≤ 9999 ∧ j ≤ n + m ∧ rq_f 4 W q.2.2 ∧ (∀ k : Nat, k < n + m → 0 ≤ rd q.2.2 4 k ∧ rd q.2.2 4 k < (10000 : Nat)) ∧ dg_v 10000 (rd q.2.2 4) (n + m) + q.1.toNat * 10000 ^ (i + j) = T0 + d.toNat * 10000 ^ i * dg_v 10000 (rd W 3) (if j ≤ m then j else m)) (fun o => ∃ Y, o = .inl ((i : Int) + 1, Y) ∧ rq_f 4 W Y ∧ (∀ k : Nat, k < n + m → 0 ≤ rd Y 4 k ∧ rd Y 4 k < (10000 : Nat)) ∧ dg_v 10000 (rd Y 4) (n + m) = dg_v 10000 (rd W 0) (i + 1) * w) (fun q => ((n : Int) + m - q.2.1).toNat) ?_ (0, 0, U) ⟨0, rfl, Int.le_refl _, show (0 : Int) ≤ 9999 by decide, Nat.zero_le _, r2, r3, by dsimp only; rw [hT0, if_pos (Nat.zero_le _)]; show T0 + 0 * _ = T0 + _ * 0; omega⟩
          · obtain ⟨Y, y1, y2, y3, y4⟩ := key4
            exact Or.inl ⟨_, q2.trans y1, ⟨i + 1, by dsimp only; omega, by omega, y2, y3, y4⟩, by dsimp only; omega⟩
          · rintro ⟨x, j', Y⟩ ⟨j, s0, s1, s2, s3, s4, s5, s6⟩
            dsimp only at s0 s1 s2 s4 s5 s6
            subst s0
            have q3 := congrFun hB4 (x, (j : Int), Y)
            simp only [] at q3
            have ep : (1200 + (i : Int) + (j : Int)).toNat = 300 * 4 + (i + j) := by omega
            -- a digit written
            have wr : ∀ (s : Int) (j1 : Nat), i + j < n + m → 0 ≤ s → s ≤ 99999999 → j1 = j + 1 → (rd Y 4 (i + j) + x + s ≤ 99999999) → T0 + d.toNat * 10000 ^ i * dg_v 10000 (rd W 3) (if j ≤ m then j else m) + s.toNat * 10000 ^ (i + j) = T0 + d.toNat * 10000 ^ i * dg_v 10000 (rd W 3) (if j1 ≤ m then j1 else m) → rq_f 4 W (pm_up Y 113 (300 * 4 + (i + j)) ((rd Y 4 (i + j) + x + s) % 10000)) ∧ (∀ k : Nat, k < n + m → 0 ≤ rd (pm_up Y 113 (300 * 4 + (i + j)) ((rd Y 4 (i + j) + x + s) % 10000)) 4 k ∧ rd (pm_up Y 113 (300 * 4 + (i + j)) ((rd Y 4 (i + j) + x + s) % 10000)) 4 k < (10000 : Nat)) ∧ dg_v 10000 (rd (pm_up Y 113 (300 * 4 + (i + j)) ((rd Y 4 (i + j) + x + s) % 10000)) 4) (n + m) + ((rd Y 4 (i + j) + x + s) / 10000).toNat * 10000 ^ (i + j1) = T0 + d.toNat * 10000 ^ i * dg_v 10000 (rd W 3) (if j1 ≤ m then j1 else m) := by
              intro s j1 hij s0 sM hj1 hs hT
              have hg := s5 (i + j) hij
              obtain ⟨g, eg⟩ : ∃ g, rd Y 4 (i + j) = g := ⟨_, rfl⟩
              rw [eg] at hg hs ⊢
              have ew : rd (pm_up Y 113 (300 * 4 + (i + j)) ((g + x + s) % 10000)) 4 (i + j) = (g + x + s) % 10000 := pm_up_s
              have en : ∀ k, k ≠ i + j → rd (pm_up Y 113 (300 * 4 + (i + j)) ((g + x + s) % 10000)) 4 k = rd Y 4 k := fun k hk => pm_up_i (by omega)
              refine ⟨s4.d (by omega), fun k hk => ?_, ?_⟩
              · by_cases ek : k = i + j
                · rw [ek, ew]
                  omega
                · rw [en k ek]
                  exact s5 k hk
              · have h5 := dg_up (B := 10000) (n + m) hij en
                rw [eg, ew] at h5
                rw [← hT, ← s6, hj1, ← Nat.add_assoc i j 1, Nat.pow_succ]
                generalize 10000 ^ (i + j) = P at *
                have d1 : ((g + x + s) % 10000).toNat + ((g + x + s) / 10000).toNat * 10000 = g.toNat + x.toNat + s.toNat := by omega
                have d2 : ((g + x + s) % 10000).toNat * P + ((g + x + s) / 10000).toNat * (P * 10000) = g.toNat * P + x.toNat * P + s.toNat * P := by
                  rw [Nat.mul_comm P 10000, ← Nat.mul_assoc, ← Nat.add_mul, d1, Nat.add_mul, Nat.add_mul]
                omega
            by_cases c3 : (j : Int) < (m : Int)
            · have hj : j < m := by omega
              have hij : i + j < n + m := by omega
              have ey : Y 113 (1200 + (i : Int) + (j : Int)).toNat = rd Y 4 (i + j) := by rw [ep]; rfl
              have eX : Y 113 (0 + (i : Int)).toNat = d := by
                have e5 : (0 + (i : Int)).toNat = 300 * 0 + i := by omega
                rw [e5, ← hd]
                exact rX s4 i (by omega)
              obtain ⟨f, hf⟩ : ∃ f, rd W 3 j = f := ⟨_, rfl⟩
              have hfr := h2.2.2.1 j hj
              rw [hf] at hfr
              have eY : Y 113 (900 + (j : Int)).toNat = f := by
                have e5 : (900 + (j : Int)).toNat = 300 * 3 + j := by omega
                rw [e5, ← hf]
                exact rY s4 j (by omega)
              have hg := s5 (i + j) hij
              have b1 : 0 ≤ d * f := Int.mul_nonneg hdr.1 hfr.1
              have b2 : d * f ≤ 9999 * 9999 := Int.mul_le_mul (by omega) (by omega) hfr.1 (by decide)
              replace q3 := ((((((q3.trans (if_pos c3)).trans (pf_let_eq ey)).trans (if_neg (show ¬ (m : Int) ≤ (j : Int) by omega))).trans (pf_let_eq eX)).trans (pf_let_eq eY)).trans (pf_let_eq rfl)).trans (pf_let_eq rfl)
              rw [ep] at q3
              obtain ⟨t1, t2, t3⟩ := wr (d * f) (j + 1) hij b1 (by omega) rfl (by omega) (by
                rw [if_pos (show j ≤ m by omega), if_pos (show j + 1 ≤ m by omega)]
                have d2 : (d * f).toNat = d.toNat * f.toNat := by
                  have d3 : ((d.toNat * f.toNat : Nat) : Int) = d * f := by rw [Int.natCast_mul, Int.toNat_of_nonneg hdr.1, Int.toNat_of_nonneg hfr.1]
                  omega
                show _ = T0 + d.toNat * 10000 ^ i * (dg_v 10000 (rd W 3) j + (rd W 3 j).toNat * 10000 ^ j)
                rw [hf, d2, Nat.mul_add, Nat.pow_add, Nat.add_assoc]
                congr 2
                ac_rfl)
              exact Or.inl ⟨_, q3, ⟨j + 1, by dsimp only; omega, by dsimp only; omega, by dsimp only; omega, by omega, t1, t2, t3⟩, by dsimp only; omega⟩
            · have hj : m ≤ j := by omega
              have em : (if j ≤ m then j else m) = m := by
                by_cases q : j ≤ m
                · rw [if_pos q]
                  omega
                · rw [if_neg q]
              rw [em, h2.2.2.2.1] at s6
              replace q3 := (q3.trans (if_neg c3)).trans (pf_let_eq rfl)
              by_cases c4 : x ≤ 0
              · have ex : x.toNat = 0 := by omega
                rw [ex, Nat.zero_mul, Nat.add_zero] at s6
                replace q3 := (q3.trans (if_pos (pm_cmp_le0.mpr c4))).trans (pf_let_eq rfl)
                exact Or.inr ⟨_, q3, Y, rfl, s4, s5, s6.trans etot.symm⟩
              · have hij : i + j < n + m := by
                  rcases Nat.lt_or_ge (i + j) (n + m) with q | q
                  · exact q
                  · exfalso
                    have a1 : 10000 ^ (n + m) ≤ 10000 ^ (i + j) := Nat.pow_le_pow_right (by decide) q
                    have a2 : 1 * 10000 ^ (i + j) ≤ x.toNat * 10000 ^ (i + j) := Nat.mul_le_mul_right _ (by omega)
                    omega
                have ey : Y 113 (1200 + (i : Int) + (j : Int)).toNat = rd Y 4 (i + j) := by rw [ep]; rfl
                have hg := s5 (i + j) hij
                replace q3 := (((q3.trans (if_neg (fun q => c4 (pm_cmp_le0.mp q)))).trans (pf_let_eq ey)).trans (if_pos (show (m : Int) ≤ (j : Int) by omega))).trans (pf_let_eq rfl)
                rw [ep] at q3
                obtain ⟨t1, t2, t3⟩ := wr 0 (j + 1) hij (by decide) (by decide) rfl (by omega) (by
                  have em2 : (if j + 1 ≤ m then j + 1 else m) = m := if_neg (by omega)
                  rw [em, em2, Int.toNat_zero, Nat.zero_mul, Nat.add_zero])
                exact Or.inl ⟨_, q3, ⟨j + 1, by dsimp only; omega, by dsimp only; omega, by dsimp only; omega, by omega, t1, t2, t3⟩, by dsimp only; omega⟩
    · have eo : (1200 + j).toNat = 300 * 4 + j.toNat := by omega
      replace q1 := (q1.trans (if_neg c)).trans (pf_let_eq rfl)
      rw [eo] at q1
      refine Or.inl ⟨_, q1, ⟨by dsimp only; omega, by dsimp only; omega, p2.d (by omega), ?_⟩, by dsimp only; omega⟩
      intro k hk
      dsimp only at hk
      show pm_up U 113 _ _ 113 _ = _
      by_cases ek : k = j.toNat
      · rw [ek, pm_up_s]
      · rw [pm_up_i (by omega)]
        exact p3 k (by omega)
theorem rk_join5 {W Z : pm_M} {z : Int} {n m v w : Nat} (h : rk W 2 n v) (h2 : rk W 1 m w) (hn : n ≤ 145) (hm : m ≤ 145) (hZ : F_X12_joins_d2_1_5 W = (z, Z)) : ∃ k, rk Z 5 k (v * w) ∧ rq_f 5 W Z := by
  have e := hZ.symm.trans (F_X12_joins_d2_1_5_eq W)
  replace e := (((e.trans (pf_let_eq h2.1)).trans (pf_let_eq h.1)).trans (pf_let_eq rfl)).trans (pf_let_eq rfl)
  obtain ⟨B, hB, e⟩ := pf_loop e
  have v1 := dg_lt n h.2.2.1
  have w1 := dg_lt m h2.2.2.1
  rw [h.2.2.2.1] at v1
  rw [h2.2.2.2.1] at w1
  -- what the rows that are read hold, later on
  have rX : ∀ {U : pm_M}, rq_f 5 W U → ∀ k, k < 300 → rd U 2 k = rd W 2 k := fun f k hk => f.2.2 _ (by omega)
  have rY : ∀ {U : pm_M}, rq_f 5 W U → ∀ k, k < 300 → rd U 1 k = rd W 1 k := fun f k hk => f.2.2 _ (by omega)
  have key := pf_val_ind2 (d := ((0 : Int), W)) (b := B) (fun q => 0 ≤ q.1 ∧ q.1 ≤ (n : Int) + m ∧ rq_f 5 W q.2 ∧ ∀ k : Nat, (k : Int) < q.1 → rd q.2 5 k = 0) (fun o => ∃ k, rk o.2 5 k (v * w) ∧ rq_f 5 W o.2) (fun q => ((n : Int) + m - q.1).toNat) ?_ (0, W) ⟨Int.le_refl _, by dsimp only; omega, rq_f.rf, fun k hk => absurd hk (by dsimp only; omega)⟩
  · rw [← e] at key
    exact key
  · rintro ⟨j, U⟩ ⟨p0, p1, p2, p3⟩
    dsimp only at p0 p1 p2 p3
    have q1 := congrFun hB (j, U)
    simp only [] at q1
    by_cases c : (n : Int) + m ≤ j
    · replace q1 := q1.trans (if_pos c)
      obtain ⟨B2, hB2, q1⟩ := pf_loop q1
      have key2 := pf_val_ind2 (d := (.inr ((0 : Int), W))) (b := B2) (fun q => ∃ i : Nat, q.1 = (i : Int) ∧ i ≤ n ∧ rq_f 5 W q.2 ∧ (∀ k : Nat, k < n + m → 0 ≤ rd q.2 5 k ∧ rd q.2 5 k < (10000 : Nat)) ∧ dg_v 10000 (rd q.2 5) (n + m) = dg_v 10000 (rd W 2) i * w) (fun o => ∃ Z, o = .inr (0, Z) ∧ ∃ k, rk Z 5 k (v * w) ∧ rq_f 5 W Z) (fun q => ((n : Int) - q.1).toNat) ?_ (0, U) ⟨0, rfl, Nat.zero_le _, p2, fun k hk => by rw [p3 k (by omega)]; exact ⟨by decide, by decide⟩, by rw [dg_0 (n + m) fun k hk => p3 k (by omega)]; show 0 = 0 * w; omega⟩
      · obtain ⟨Z', z1, z2⟩ := key2
        exact Or.inr ⟨_, q1.trans z1, z2⟩
      · rintro ⟨i', U⟩ ⟨i, r0, r1, r2, r3, r4⟩
        dsimp only at r0 r2 r3 r4
        subst r0
        have q2 := congrFun hB2 ((i : Int), U)
        simp only [] at q2
        by_cases c2 : (n : Int) ≤ (i : Int)
        · have ein : i = n := by omega
          rw [ein, h.2.2.2.1] at r4
          replace q2 := q2.trans (if_pos c2)
          obtain ⟨B3, hB3, q2⟩ := pf_loop q2
          have key3 := pf_val_ind2 (d := (.inr (.inr ((0 : Int), W)))) (b := B3) (fun q => ∃ k : Nat, q = (k : Int) ∧ 1 ≤ k ∧ k ≤ n + m ∧ dg_v 10000 (rd U 5) k = v * w) (fun o => ∃ Z, o = .inr (.inr (0, Z)) ∧ ∃ k, rk Z 5 k (v * w) ∧ rq_f 5 W Z) (fun q => q.toNat) ?_ ((n : Int) + m) ⟨n + m, by omega, by have := h.2.1; omega, Nat.le_refl _, r4⟩
          · obtain ⟨Z', z1, z2⟩ := key3
            have q2' : B2 ((i : Int), U) = pf_val (.inr (.inr ((0 : Int), W))) B3 ((n : Int) + m) := q2
            exact Or.inr ⟨_, q2'.trans z1, Z', rfl, z2⟩
          · rintro k' ⟨k, rfl, k1, k2, k3⟩
            have q3 := congrFun hB3 (k : Int)
            try simp only [] at q3
            have fin : (k = 1 ∨ 10000 ^ (k - 1) ≤ v * w) → rk (pm_up U 114 5 (k : Int)) 5 k (v * w) ∧ rq_f 5 W (pm_up U 114 5 (k : Int)) := fun ht => ⟨⟨pm_up_s, k1, fun l hl => by
              show 0 ≤ pm_up U 114 5 _ 113 _ ∧ pm_up U 114 5 _ 113 _ < _
              rw [pm_up_c (by decide)]
              exact r3 l (by omega), (dg_eq k fun l _ => pm_up_c (by decide)).trans k3, ht⟩, r2.p⟩
            by_cases c3 : (k : Int) ≤ 1
            · exact Or.inr ⟨_, q3.trans (if_pos c3), _, rfl, k, fin (Or.inl (by omega))⟩
            · replace q3 := (q3.trans (if_neg c3)).trans (pf_let_eq (y := rd U 5 (k - 1)) (by show U 113 _ = U 113 _; congr 1; omega))
              by_cases c4 : rd U 5 (k - 1) = 0
              · replace q3 := (q3.trans (if_neg (fun q => q c4))).trans (pf_let_eq rfl)
                exact Or.inl ⟨_, q3, ⟨k - 1, by omega, by omega, by omega, by rw [← k3, dg_z k1 c4]⟩, by omega⟩
              · replace q3 := q3.trans (if_pos c4)
                have ht := r3 (k - 1) (by omega)
                exact Or.inr ⟨_, q3, _, rfl, k, fin (Or.inr (by rw [← k3]; exact dg_top k1 (by omega)))⟩
        · have hi : i < n := by omega
          replace q2 := q2.trans (if_neg c2)
          obtain ⟨d, hd⟩ : ∃ d, rd W 2 i = d := ⟨_, rfl⟩
          have hdr := h.2.2.1 i hi
          rw [hd] at hdr
          have etot : dg_v 10000 (rd W 2) (i + 1) * w = dg_v 10000 (rd U 5) (n + m) + d.toNat * 10000 ^ i * w := by
            show (dg_v 10000 (rd W 2) i + (rd W 2 i).toNat * 10000 ^ i) * w = _
            rw [hd, r4, Nat.add_mul]
          have htot : dg_v 10000 (rd W 2) (i + 1) * w < 10000 ^ (n + m) := by
            have a1 : dg_v 10000 (rd W 2) (i + 1) < 10000 ^ n := Nat.lt_of_le_of_lt (dg_le (show i + 1 ≤ n by omega)) (dg_lt n h.2.2.1)
            rw [Nat.pow_add]
            exact Nat.mul_lt_mul_of_le_of_lt (Nat.le_of_lt a1) w1 (Nat.pow_pos (by decide))
          rw [etot] at htot
          obtain ⟨T0, hT0⟩ : ∃ T0, dg_v 10000 (rd U 5) (n + m) = T0 := ⟨_, rfl⟩
          rw [hT0] at htot etot
          obtain ⟨B4, hB4, q2⟩ := pf_loop q2
          have key4 := pf_val_ind2 (d := (.inr (.inr ((0 : Int), W)))) (b := B4) (fun q => ∃ j : Nat, q.2.1 = (j : Int) ∧ 0 ≤ q.1 ∧ q.1 ≤ 9999 ∧ j ≤ n + m ∧ rq_f 5 W q.2.2 ∧ (∀ k : Nat, k < n + m → 0 ≤ rd q.2.2 5 k ∧ rd q.2.2 5 k < (10000 : Nat)) ∧ dg_v 10000 (rd q.2.2 5) (n + m) + q.1.toNat * 10000 ^ (i + j) = T0 + d.toNat * 10000 ^ i * dg_v 10000 (rd W 1) (if j ≤ m then j else m)) (fun o => ∃ Y, o = .inl ((i : Int) + 1, Y) ∧ rq_f 5 W Y ∧ (∀ k : Nat, k < n + m → 0 ≤ rd Y 5 k ∧ rd Y 5 k < (10000 : Nat)) ∧ dg_v 10000 (rd Y 5) (n + m) = dg_v 10000 (rd W 2) (i + 1) * w) (fun q => ((n : Int) + m - q.2.1).toNat) ?_ (0, 0, U) ⟨0, rfl, Int.le_refl _, show (0 : Int) ≤ 9999 by decide, Nat.zero_le _, r2, r3, by dsimp only; rw [hT0, if_pos (Nat.zero_le _)]; show T0 + 0 * _ = T0 + _ * 0; omega⟩
          · obtain ⟨Y, y1, y2, y3, y4⟩ := key4
            exact Or.inl ⟨_, q2.trans y1, ⟨i + 1, by dsimp only; omega, by omega, y2, y3, y4⟩, by dsimp only; omega⟩
          · rintro ⟨x, j', Y⟩ ⟨j, s0, s1, s2, s3, s4, s5, s6⟩
            dsimp only at s0 s1 s2 s4 s5 s6
            subst s0
            have q3 := congrFun hB4 (x, (j : Int), Y)
            simp only [] at q3
            have ep : (1500 + (i : Int) + (j : Int)).toNat = 300 * 5 + (i + j) := by omega
            -- a digit written
            have wr : ∀ (s : Int) (j1 : Nat), i + j < n + m → 0 ≤ s → s ≤ 99999999 → j1 = j + 1 → (rd Y 5 (i + j) + x + s ≤ 99999999) → T0 + d.toNat * 10000 ^ i * dg_v 10000 (rd W 1) (if j ≤ m then j else m) + s.toNat * 10000 ^ (i + j) = T0 + d.toNat * 10000 ^ i * dg_v 10000 (rd W 1) (if j1 ≤ m then j1 else m) → rq_f 5 W (pm_up Y 113 (300 * 5 + (i + j)) ((rd Y 5 (i + j) + x + s) % 10000)) ∧ (∀ k : Nat, k < n + m → 0 ≤ rd (pm_up Y 113 (300 * 5 + (i + j)) ((rd Y 5 (i + j) + x + s) % 10000)) 5 k ∧ rd (pm_up Y 113 (300 * 5 + (i + j)) ((rd Y 5 (i + j) + x + s) % 10000)) 5 k < (10000 : Nat)) ∧ dg_v 10000 (rd (pm_up Y 113 (300 * 5 + (i + j)) ((rd Y 5 (i + j) + x + s) % 10000)) 5) (n + m) + ((rd Y 5 (i + j) + x + s) / 10000).toNat * 10000 ^ (i + j1) = T0 + d.toNat * 10000 ^ i * dg_v 10000 (rd W 1) (if j1 ≤ m then j1 else m) := by
              intro s j1 hij s0 sM hj1 hs hT
              have hg := s5 (i + j) hij
              obtain ⟨g, eg⟩ : ∃ g, rd Y 5 (i + j) = g := ⟨_, rfl⟩
              rw [eg] at hg hs ⊢
              have ew : rd (pm_up Y 113 (300 * 5 + (i + j)) ((g + x + s) % 10000)) 5 (i + j) = (g + x + s) % 10000 := pm_up_s
              have en : ∀ k, k ≠ i + j → rd (pm_up Y 113 (300 * 5 + (i + j)) ((g + x + s) % 10000)) 5 k = rd Y 5 k := fun k hk => pm_up_i (by omega)
              refine ⟨s4.d (by omega), fun k hk => ?_, ?_⟩
              · by_cases ek : k = i + j
                · rw [ek, ew]
                  omega
                · rw [en k ek]
                  exact s5 k hk
              · have h5 := dg_up (B := 10000) (n + m) hij en
                rw [eg, ew] at h5
                rw [← hT, ← s6, hj1, ← Nat.add_assoc i j 1, Nat.pow_succ]
                generalize 10000 ^ (i + j) = P at *
                have d1 : ((g + x + s) % 10000).toNat + ((g + x + s) / 10000).toNat * 10000 = g.toNat + x.toNat + s.toNat := by omega
                have d2 : ((g + x + s) % 10000).toNat * P + ((g + x + s) / 10000).toNat * (P * 10000) = g.toNat * P + x.toNat * P + s.toNat * P := by
                  rw [Nat.mul_comm P 10000, ← Nat.mul_assoc, ← Nat.add_mul, d1, Nat.add_mul, Nat.add_mul]
                omega
            by_cases c3 : (j : Int) < (m : Int)
            · have hj : j < m := by omega
              have hij : i + j < n + m := by omega
              have ey : Y 113 (1500 + (i : Int) + (j : Int)).toNat = rd Y 5 (i + j) := by rw [ep]; rfl
              have eX : Y 113 (600 + (i : Int)).toNat = d := by
                have e5 : (600 + (i : Int)).toNat = 300 * 2 + i := by omega
                rw [e5, ← hd]
                exact rX s4 i (by omega)
              obtain ⟨f, hf⟩ : ∃ f, rd W 1 j = f := ⟨_, rfl⟩
              have hfr := h2.2.2.1 j hj
              rw [hf] at hfr
              have eY : Y 113 (300 + (j : Int)).toNat = f := by
                have e5 : (300 + (j : Int)).toNat = 300 * 1 + j := by omega
                rw [e5, ← hf]
                exact rY s4 j (by omega)
              have hg := s5 (i + j) hij
              have b1 : 0 ≤ d * f := Int.mul_nonneg hdr.1 hfr.1
              have b2 : d * f ≤ 9999 * 9999 := Int.mul_le_mul (by omega) (by omega) hfr.1 (by decide)
              replace q3 := ((((((q3.trans (if_pos c3)).trans (pf_let_eq ey)).trans (if_neg (show ¬ (m : Int) ≤ (j : Int) by omega))).trans (pf_let_eq eX)).trans (pf_let_eq eY)).trans (pf_let_eq rfl)).trans (pf_let_eq rfl)
              rw [ep] at q3
              obtain ⟨t1, t2, t3⟩ := wr (d * f) (j + 1) hij b1 (by omega) rfl (by omega) (by
                rw [if_pos (show j ≤ m by omega), if_pos (show j + 1 ≤ m by omega)]
                have d2 : (d * f).toNat = d.toNat * f.toNat := by
                  have d3 : ((d.toNat * f.toNat : Nat) : Int) = d * f := by rw [Int.natCast_mul, Int.toNat_of_nonneg hdr.1, Int.toNat_of_nonneg hfr.1]
                  omega
                show _ = T0 + d.toNat * 10000 ^ i * (dg_v 10000 (rd W 1) j + (rd W 1 j).toNat * 10000 ^ j)
                rw [hf, d2, Nat.mul_add, Nat.pow_add, Nat.add_assoc]
                congr 2
                ac_rfl)
              exact Or.inl ⟨_, q3, ⟨j + 1, by dsimp only; omega, by dsimp only; omega, by dsimp only; omega, by omega, t1, t2, t3⟩, by dsimp only; omega⟩
            · have hj : m ≤ j := by omega
              have em : (if j ≤ m then j else m) = m := by
                by_cases q : j ≤ m
                · rw [if_pos q]
                  omega
                · rw [if_neg q]
              rw [em, h2.2.2.2.1] at s6
              replace q3 := (q3.trans (if_neg c3)).trans (pf_let_eq rfl)
              by_cases c4 : x ≤ 0
              · have ex : x.toNat = 0 := by omega
                rw [ex, Nat.zero_mul, Nat.add_zero] at s6
                replace q3 := (q3.trans (if_pos (pm_cmp_le0.mpr c4))).trans (pf_let_eq rfl)
                exact Or.inr ⟨_, q3, Y, rfl, s4, s5, s6.trans etot.symm⟩
              · have hij : i + j < n + m := by
                  rcases Nat.lt_or_ge (i + j) (n + m) with q | q
                  · exact q
                  · exfalso
                    have a1 : 10000 ^ (n + m) ≤ 10000 ^ (i + j) := Nat.pow_le_pow_right (by decide) q
                    have a2 : 1 * 10000 ^ (i + j) ≤ x.toNat * 10000 ^ (i + j) := Nat.mul_le_mul_right _ (by omega)
                    omega
                have ey : Y 113 (1500 + (i : Int) + (j : Int)).toNat = rd Y 5 (i + j) := by rw [ep]; rfl
                have hg := s5 (i + j) hij
                replace q3 := (((q3.trans (if_neg (fun q => c4 (pm_cmp_le0.mp q)))).trans (pf_let_eq ey)).trans (if_pos (show (m : Int) ≤ (j : Int) by omega))).trans (pf_let_eq rfl)
                rw [ep] at q3
                obtain ⟨t1, t2, t3⟩ := wr 0 (j + 1) hij (by decide) (by decide) rfl (by omega) (by
                  have em2 : (if j + 1 ≤ m then j + 1 else m) = m := if_neg (by omega)
                  rw [em, em2, Int.toNat_zero, Nat.zero_mul, Nat.add_zero])
                exact Or.inl ⟨_, q3, ⟨j + 1, by dsimp only; omega, by dsimp only; omega, by dsimp only; omega, by omega, t1, t2, t3⟩, by dsimp only; omega⟩
    · have eo : (1500 + j).toNat = 300 * 5 + j.toNat := by omega
      replace q1 := (q1.trans (if_neg c)).trans (pf_let_eq rfl)
      rw [eo] at q1
      refine Or.inl ⟨_, q1, ⟨by dsimp only; omega, by dsimp only; omega, p2.d (by omega), ?_⟩, by dsimp only; omega⟩
      intro k hk
      dsimp only at hk
      show pm_up U 113 _ _ 113 _ = _
      by_cases ek : k = j.toNat
      · rw [ek, pm_up_s]
      · rw [pm_up_i (by omega)]
        exact p3 k (by omega)
theorem rk_cmp {V : pm_M} {n m v w : Nat} (h : rk V 4 n v) (h2 : rk V 5 m w) : F_X12_compares_d4_5 V = (pm_cmp (v : Int) (w : Int), V) := by
  have e := ((F_X12_compares_d4_5_eq V).trans (pf_let_eq h.1)).trans (pf_let_eq h2.1)
  by_cases c : n = m
  · subst c
    replace e := e.trans (if_pos rfl)
    obtain ⟨B, hB, e⟩ := pf_loop e
    have key := pf_val_ind2 (d := ((0 : Int), V)) (b := B) (fun q => ∃ i : Nat, q = (i : Int) - 1 ∧ i ≤ n ∧ ∀ k, i ≤ k → k < n → rd V 4 k = rd V 5 k) (fun o => o = (pm_cmp (v : Int) (w : Int), V)) (fun q => (q + 1).toNat) ?_ ((n : Int) - 1) ⟨n, rfl, Nat.le_refl _, fun k k1 k2 => absurd k1 (by omega)⟩
    · exact e.trans key
    · rintro x ⟨i, rfl, hi, hk⟩
      have q1 := congrFun hB ((i : Int) - 1)
      simp only [] at q1
      by_cases c1 : (i : Int) - 1 < 0
      · refine Or.inr ⟨_, q1.trans (if_pos c1), ?_⟩
        have ev : v = w := by
          rw [← h.2.2.2.1, ← h2.2.2.2.1]
          exact dg_eq n fun k hk2 => hk k (by omega) hk2
        rw [ev]
        exact Prod.ext (pm_cmp_eq0.mpr rfl).symm rfl
      · obtain ⟨j, rfl⟩ : ∃ j, i = j + 1 := ⟨i - 1, by omega⟩
        have e4 : V 113 (1200 + (((j + 1 : Nat) : Int) - 1)).toNat = rd V 4 j := by show _ = V 113 _; congr 1; omega
        have e5 : V 113 (1500 + (((j + 1 : Nat) : Int) - 1)).toNat = rd V 5 j := by show _ = V 113 _; congr 1; omega
        replace q1 := ((q1.trans (if_neg c1)).trans (pf_let_eq e4)).trans (pf_let_eq e5)
        by_cases c2 : rd V 4 j = rd V 5 j
        · refine Or.inl ⟨_, (q1.trans (if_pos c2)).trans (pf_let_eq rfl), ⟨j, by omega, by omega, fun k k1 k2 => ?_⟩, by omega⟩
          by_cases ek : k = j
          · rw [ek]
            exact c2
          · exact hk k (by omega) k2
        · replace q1 := q1.trans (if_neg c2)
          by_cases c3 : rd V 5 j ≤ rd V 4 j
          · refine Or.inr ⟨_, q1.trans (if_pos c3), ?_⟩
            have hh := dg_less (B := 10000) (i := j) (n := n) (by omega) h2.2.2.1 h.2.2.1 (fun k k1 k2 => (hk k (by omega) k2).symm) (by omega)
            rw [h.2.2.2.1, h2.2.2.2.1] at hh
            exact Prod.ext (pm_cmp_1 (by omega)).symm rfl
          · refine Or.inr ⟨_, q1.trans (if_neg c3), ?_⟩
            have hh := dg_less (B := 10000) (i := j) (n := n) (by omega) h.2.2.1 h2.2.2.1 (fun k k1 k2 => hk k (by omega) k2) (by omega)
            rw [h.2.2.2.1, h2.2.2.2.1] at hh
            exact Prod.ext (pm_cmp_m (by omega)).symm rfl
  · replace e := e.trans (if_neg (show ¬ (n : Int) = (m : Int) by omega))
    by_cases c2 : m ≤ n
    · have hh := h2.2.more h.2 (by omega) (by decide)
      exact (e.trans (if_pos (show (m : Int) ≤ (n : Int) by omega))).trans (Prod.ext (pm_cmp_1 (by omega)).symm rfl)
    · have hh := h.2.more h2.2 (by omega) (by decide)
      exact (e.trans (if_neg (show ¬ (m : Int) ≤ (n : Int) by omega))).trans (Prod.ext (pm_cmp_m (by omega)).symm rfl)
